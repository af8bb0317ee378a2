/-! the class's small methods: what they answer and do, as functions of the numbers -/
abbrev rmd (x y : Int32) : Int32 := x - x / y * y
def quoF (d v : Int32) : Int32 := if v = 0 then 0 else d / v
def distF (a b : Int32) : Int32 := if b ≤ a then a - b else b - a
def wthF (x lo hi : Int32) : Int32 := if x < lo then 0 else if hi < x then 0 else 1
def airN (fr ho h : Int32) : Int32 := if ho ≤ rmd (rmd h 24 - fr + 24) 24 then 0 else 1
def fadF (p h : Int32) : Int32 := if 0 ≤ rmd (h + p) 12 - 6 then 4 + (rmd (h + p) 12 - 6) else 4 + -(rmd (h + p) 12 - 6)
def widF (t : Int32) : Int32 := if 10 < 80 - t / 3 then 80 - t / 3 else 10
def tuneF (M : St) (j : Nat) (t d : Int32) : St := mu (mu (mu (mu M 8 j 0 t) 9 j 0 d) 12 j 0 (quoF 100000 (t + d))) 13 j 0 (widF t)
/-- the strength of a station of these numbers at a set of these numbers -/
def strN (fr pw fa fad tun wid aer cry : Int32) : Int32 := if 0 < wid - distF fr tun then (quoF (quoF (pw * fad * aer) (10 * fa) * (wid - distF fr tun)) wid * (1 + cry)) / 10 else 0
def strF (M : St) (j i : Nat) (h : Int32) : Int32 := strN (M 0 i 0) (M 0 i 1) (M 0 i 2) (fadF (M 0 i 5) h) (M 12 j 0) (M 13 j 0) (M 10 j 0) (M 11 j 0)
def setH (M : St) (c : Nat) (a b s r : Int32) : St := mu (mu (mu (mu M 4 c 0 a) 5 c 0 b) 6 c 0 s) 7 c 0 r
theorem gG.to {Z : gZ} {A : Nat → Prop} {s : State} {ws ws' : va_W} {H : Heap} {locs : List Loc} (G : gG Z A s ws H locs) (h : ws = ws') : gG Z A s ws' H locs := h ▸ G
theorem st_ext {M N : St} (h : ∀ f i j, M f i j = N f i j) : M = N := funext fun f => funext fun i => funext fun j => h f i j
theorem setH_of {M : St} {c : Nat} {a b s r : Int32} {f i j : Nat} (h : ¬ (4 ≤ f ∧ f ≤ 7 ∧ i = c ∧ j = 0)) : setH M c a b s r f i j = M f i j := by
  have hm : ∀ (N : St) (g : Nat) (v : Int32), 4 ≤ g → g ≤ 7 → mu N g c 0 v f i j = N f i j := by
    intro N g v h4 h7
    by_cases hg : f = g
    · by_cases hi : i = c
      · subst hg; subst hi
        exact mu_j (fun q => h ⟨h4, h7, rfl, q⟩)
      · rw [mu_ne (fun q => hi q.2)]
    · rw [mu_o hg]
  unfold setH
  rw [hm _ _ _ (by omega) (by omega), hm _ _ _ (by omega) (by omega), hm _ _ _ (by omega) (by omega), hm _ _ _ (by omega) (by omega)]
theorem setH_4 {M : St} {c : Nat} {a b s r : Int32} : setH M c a b s r 4 c 0 = a := by simp [setH, mu, upd]
theorem setH_5 {M : St} {c : Nat} {a b s r : Int32} : setH M c a b s r 5 c 0 = b := by simp [setH, mu, upd]
theorem setH_6 {M : St} {c : Nat} {a b s r : Int32} : setH M c a b s r 6 c 0 = s := by simp [setH, mu, upd]
theorem setH_7 {M : St} {c : Nat} {a b s r : Int32} : setH M c a b s r 7 c 0 = r := by simp [setH, mu, upd]
theorem setH_ext {M N : St} {c : Nat} {a b s r : Int32} (h : ∀ f i j, ¬ (4 ≤ f ∧ f ≤ 7 ∧ i = c ∧ j = 0) → N f i j = M f i j) (h4 : N 4 c 0 = a) (h5 : N 5 c 0 = b) (h6 : N 6 c 0 = s) (h7 : N 7 c 0 = r) : N = setH M c a b s r := by
  refine st_ext fun f i j => ?_
  by_cases hq : 4 ≤ f ∧ f ≤ 7 ∧ i = c ∧ j = 0
  · obtain ⟨h1, h2, rfl, rfl⟩ := hq
    rcases (show f = 4 ∨ f = 5 ∨ f = 6 ∨ f = 7 by omega) with rfl | rfl | rfl | rfl
    · rw [h4, setH_4]
    · rw [h5, setH_5]
    · rw [h6, setH_6]
    · rw [h7, setH_7]
  · rw [h f i j hq, setH_of hq]
theorem setH_x {M : St} {c : Nat} {a b s r a' b' s' r' : Int32} : setH (setH M c a b s r) c a' b' s' r' = setH M c a' b' s' r' :=
  setH_ext (fun f i j h => by rw [setH_of h, setH_of h]) setH_4 setH_5 setH_6 setH_7
/-- what is heard: how many are in reach, which is the strongest, how strong, the next one -/
abbrev hQ : Type := Int32 × Int32 × Int32 × Int32
def hstep (q : hQ) (num st : Int32) : hQ := if 0 < st then (if st ≤ q.2.2.1 then (if st ≤ q.2.2.2 then (q.1 + 1, q.2.1, q.2.2.1, q.2.2.2) else (q.1 + 1, q.2.1, q.2.2.1, st)) else (q.1 + 1, num, st, q.2.2.1)) else q
def hfold (f : Nat → Int32) : Nat → hQ
  | 0 => (0, -1, 0, 0)
  | i + 1 => hstep (hfold f i) (nI i) (f i)
def verQ (q : hQ) : Int32 := if q.2.2.1 < 5 then (if q.1 < 2 then -1 else -2) else if q.2.2.1 < 2 * q.2.2.2 then (if q.1 < 2 then -1 else -2) else q.2.1
def setQ (M : St) (c : Nat) (q : hQ) : St := setH M c q.1 q.2.1 q.2.2.1 q.2.2.2
theorem setQ_x {M : St} {c : Nat} {q q' : hQ} : setQ (setQ M c q) c q' = setQ M c q' := setH_x
def getQ (M : St) (c : Nat) : hQ := (M 4 c 0, M 5 c 0, M 6 c 0, M 7 c 0)
theorem getQ_s {M : St} {c : Nat} {q : hQ} : getQ (setQ M c q) c = q := by
  obtain ⟨a, b, s, r⟩ := q
  show (setH M c a b s r 4 c 0, setH M c a b s r 5 c 0, setH M c a b s r 6 c 0, setH M c a b s r 7 c 0) = _
  rw [setH_4, setH_5, setH_6, setH_7]
theorem setQ_g {M : St} {c : Nat} : setQ M c (getQ M c) = M := (setH_ext (fun _ _ _ _ => rfl) rfl rfl rfl rfl).symm
theorem setQ_of {M : St} {c : Nat} {q : hQ} {f i j : Nat} (h : ¬ (4 ≤ f ∧ f ≤ 7 ∧ i = c ∧ j = 0)) : setQ M c q f i j = M f i j := setH_of h
/-- a number of another cell stays, by its kind -/
theorem mu_of {M : St} {f i j g a b : Nat} {v : Int32} (h : ¬ (g = f ∧ a = i ∧ b = j)) : mu M f i j v g a b = M g a b := by
  by_cases h1 : g = f ∧ a = i
  · obtain ⟨rfl, rfl⟩ := h1
    exact mu_j (fun q => h ⟨rfl, rfl, q⟩)
  · rw [mu_ne h1]
theorem setH_mu {M N : St} {c : Nat} {a b s r : Int32} (h : N = setH M c a b s r) : setH M c a b s r = N := h.symm
set_option maxRecDepth 100000 in
set_option maxHeartbeats 4000000 in
theorem c_X6_quotient (Z : gZ) (l : Launch) (a b : Int32) (ws : va_W) : gM Z l yX6_quotient cX6_quotient 2 (some .int) ({ frames := 0, cells := 0, slots := 0, locals := 0 } : Room) [.int a, .int b] ws (some (.int (quoF a b))) ws 0 0 := by
  refine gM_of (by decide +kernel) (Nat.le_of_ble_eq_true rfl) ?_
  intro pP eE sS mI aA bB mE cC A F hname hG ls hl
  have hx := F.1
  have hb := F.2.1
  have hl : lv_has ls 2 [(0, .int a), (1, .int b)] := hl
  refine lv_iload_n hx hb dX6_quotient_0 rfl (lv_at hl 1 rfl) ?_
  refine lv_if_ne (tgt := 8) hx hb dX6_quotient_1 (by decide) (fun h1 => ?_) (fun h1 => ?_)
  · refine lv_iload_n hx hb dX6_quotient_8 rfl (lv_at hl 0 rfl) ?_
    refine lv_iload_n hx hb dX6_quotient_9 rfl (lv_at hl 1 rfl) ?_
    refine lv_idiv hx hb dX6_quotient_10 h1 ?_
    exact gg_iret F hG rfl (by rw [quoF, if_neg h1]) rfl dX6_quotient_11
  · refine lv_iconst (v := 0) hx hb dX6_quotient_4 (by decide) ?_
    refine lv_goto (tgt := 11) hx hb dX6_quotient_5 (by decide) ?_
    exact gg_iret F hG rfl (by rw [quoF, if_pos h1]) rfl dX6_quotient_11
set_option maxRecDepth 100000 in
set_option maxHeartbeats 4000000 in
theorem c_X6_distance (Z : gZ) (l : Launch) (a b : Int32) (ws : va_W) : gM Z l yX6_distance cX6_distance 2 (some .int) ({ frames := 0, cells := 0, slots := 0, locals := 0 } : Room) [.int a, .int b] ws (some (.int (distF a b))) ws 0 0 := by
  refine gM_of (by decide +kernel) (Nat.le_of_ble_eq_true rfl) ?_
  intro pP eE sS mI aA bB mE cC A F hname hG ls hl
  have hx := F.1
  have hb := F.2.1
  have hl : lv_has ls 2 [(0, .int a), (1, .int b)] := hl
  refine lv_iload_n hx hb dX6_distance_0 rfl (lv_at hl 0 rfl) ?_
  refine lv_iload_n hx hb dX6_distance_1 rfl (lv_at hl 1 rfl) ?_
  refine lv_icmp_ge (tgt := 11) hx hb dX6_distance_2 (by decide) (fun h2 => ?_) (fun h2 => ?_)
  · refine lv_iload_n hx hb dX6_distance_11 rfl (lv_at hl 0 rfl) ?_
    refine lv_iload_n hx hb dX6_distance_12 rfl (lv_at hl 1 rfl) ?_
    refine lv_isub hx hb dX6_distance_13 ?_
    exact gg_iret F hG rfl (by rw [distF, if_pos h2]) rfl dX6_distance_14
  · refine lv_iload_n hx hb dX6_distance_5 rfl (lv_at hl 1 rfl) ?_
    refine lv_iload_n hx hb dX6_distance_6 rfl (lv_at hl 0 rfl) ?_
    refine lv_isub hx hb dX6_distance_7 ?_
    refine lv_goto (tgt := 14) hx hb dX6_distance_8 (by decide) ?_
    exact gg_iret F hG rfl (by rw [distF, if_neg h2]) rfl dX6_distance_14
set_option maxRecDepth 100000 in
set_option maxHeartbeats 4000000 in
theorem c_X6_isWithin (Z : gZ) (l : Launch) (x a b : Int32) (ws : va_W) : gM Z l yX6_isWithin cX6_isWithin 3 (some .boolean) ({ frames := 0, cells := 0, slots := 0, locals := 0 } : Room) [.int x, .int a, .int b] ws (some (.int (wthF x a b))) ws 0 0 := by
  refine gM_of (by decide +kernel) (Nat.le_of_ble_eq_true rfl) ?_
  intro pP eE sS mI aA bB mE cC A F hname hG ls hl
  have hx := F.1
  have hb := F.2.1
  have hl : lv_has ls 3 [(0, .int x), (1, .int a), (2, .int b)] := hl
  refine lv_iload_n hx hb dX6_isWithin_0 rfl (lv_at hl 0 rfl) ?_
  refine lv_iload_n hx hb dX6_isWithin_1 rfl (lv_at hl 1 rfl) ?_
  refine lv_icmp_lt (tgt := 14) hx hb dX6_isWithin_2 (by decide) (fun h2 => ?_) (fun h2 => ?_)
  · refine lv_iconst (v := 0) hx hb dX6_isWithin_14 (by decide) ?_
    exact gg_iret F hG rfl (by rw [wthF, if_pos h2]) rfl dX6_isWithin_15
  · refine lv_iload_n hx hb dX6_isWithin_5 rfl (lv_at hl 0 rfl) ?_
    refine lv_iload_n hx hb dX6_isWithin_6 rfl (lv_at hl 2 rfl) ?_
    refine lv_icmp_gt (tgt := 14) hx hb dX6_isWithin_7 (by decide) (fun h7 => ?_) (fun h7 => ?_)
    · refine lv_iconst (v := 0) hx hb dX6_isWithin_14 (by decide) ?_
      exact gg_iret F hG rfl (by rw [wthF, if_neg h2, if_pos h7]) rfl dX6_isWithin_15
    · refine lv_iconst (v := 1) hx hb dX6_isWithin_10 (by decide) ?_
      refine lv_goto (tgt := 15) hx hb dX6_isWithin_11 (by decide) ?_
      exact gg_iret F hG rfl (by rw [wthF, if_neg h2, if_neg h7]) rfl dX6_isWithin_15
set_option maxRecDepth 100000 in
set_option maxHeartbeats 4000000 in
theorem c_X4_isOnAir (Z : gZ) (l : Launch) (AD : Nat → Nat) (M : St) (n : Nat) (hn : 78 ≤ n) (i : Nat) (hi : 78 + i < n) (h : Int32) : gM Z l yX4_isOnAir cX4_isOnAir 3 (some .boolean) ({ frames := 0, cells := 0, slots := 0, locals := 0 } : Room) [.ref (AD (78 + i)), .int h] (wC Z AD M n) (some (.int (airN (M 0 i 3) (M 0 i 4) h))) (wC Z AD M n) 0 0 := by
  refine gM_of (by decide +kernel) (Nat.le_of_ble_eq_true rfl) ?_
  intro pP eE sS mI aA bB mE cC A F hname hG ls hl
  have hx := F.1
  have hb := F.2.1
  have hl : lv_has ls 3 [(0, .ref (AD (78 + i))), (1, .int h)] := hl
  refine lv_iload_n hx hb dX4_isOnAir_0 rfl (lv_at hl 1 rfl) ?_
  refine lv_bipush (v := 24) hx hb dX4_isOnAir_1 (by decide) ?_
  refine lv_irem hx hb dX4_isOnAir_3 (by decide) ?_
  refine lv_aload_n hx hb dX4_isOnAir_4 rfl (lv_at hl 0 rfl) ?_
  refine gg_get F hG (ci := 4) (v := .int (M 0 i 3)) 3 gcX4 rfl (gC_stat hi) (by decide) w2_152 rfl dX4_isOnAir_5 ?_
  refine lv_isub hx hb dX4_isOnAir_8 ?_
  refine lv_bipush (v := 24) hx hb dX4_isOnAir_9 (by decide) ?_
  refine lv_iadd hx hb dX4_isOnAir_11 ?_
  refine lv_bipush (v := 24) hx hb dX4_isOnAir_12 (by decide) ?_
  refine lv_irem hx hb dX4_isOnAir_14 (by decide) ?_
  refine lv_istore_n (lv' := [(2, .int ((((h - h / 24 * 24) - (M 0 i 3)) + 24) - (((h - h / 24 * 24) - (M 0 i 3)) + 24) / 24 * 24)), (0, .ref (AD (78 + i))), (1, .int h)]) hx hb dX4_isOnAir_15 rfl hl (by decide) rfl (fun ls hl => ?_)
  refine lv_iload_n hx hb dX4_isOnAir_16 rfl (lv_at hl 0 rfl) ?_
  refine lv_aload_n hx hb dX4_isOnAir_17 rfl (lv_at hl 1 rfl) ?_
  refine gg_get F hG (ci := 4) (v := .int (M 0 i 4)) 4 gcX4 rfl (gC_stat hi) (by decide) w2_153 rfl dX4_isOnAir_18 ?_
  refine lv_icmp_ge (tgt := 28) hx hb dX4_isOnAir_21 (by decide) (fun h21 => ?_) (fun h21 => ?_)
  · refine lv_iconst (v := 0) hx hb dX4_isOnAir_28 (by decide) ?_
    exact gg_iret F hG rfl (by rw [airN, if_pos h21]) rfl dX4_isOnAir_29
  · refine lv_iconst (v := 1) hx hb dX4_isOnAir_24 (by decide) ?_
    refine lv_goto (tgt := 29) hx hb dX4_isOnAir_25 (by decide) ?_
    exact gg_iret F hG rfl (by rw [airN, if_neg h21]) rfl dX4_isOnAir_29
set_option maxRecDepth 100000 in
set_option maxHeartbeats 4000000 in
theorem c_X4_fading (Z : gZ) (l : Launch) (AD : Nat → Nat) (M : St) (n : Nat) (hn : 78 ≤ n) (i : Nat) (hi : 78 + i < n) (h : Int32) : gM Z l yX4_fading cX4_fading 3 (some .int) ({ frames := 0, cells := 0, slots := 0, locals := 0 } : Room) [.ref (AD (78 + i)), .int h] (wC Z AD M n) (some (.int (fadF (M 0 i 5) h))) (wC Z AD M n) 0 0 := by
  refine gM_of (by decide +kernel) (Nat.le_of_ble_eq_true rfl) ?_
  intro pP eE sS mI aA bB mE cC A F hname hG ls hl
  have hx := F.1
  have hb := F.2.1
  have hl : lv_has ls 3 [(0, .ref (AD (78 + i))), (1, .int h)] := hl
  refine lv_iload_n hx hb dX4_fading_0 rfl (lv_at hl 1 rfl) ?_
  refine lv_aload_n hx hb dX4_fading_1 rfl (lv_at hl 0 rfl) ?_
  refine gg_get F hG (ci := 4) (v := .int (M 0 i 5)) 5 gcX4 rfl (gC_stat hi) (by decide) w2_154 rfl dX4_fading_2 ?_
  refine lv_iadd hx hb dX4_fading_5 ?_
  refine lv_bipush (v := 12) hx hb dX4_fading_6 (by decide) ?_
  refine lv_irem hx hb dX4_fading_8 (by decide) ?_
  refine lv_bipush (v := 6) hx hb dX4_fading_9 (by decide) ?_
  refine lv_isub hx hb dX4_fading_11 ?_
  refine lv_istore_n (lv' := [(2, .int (((h + (M 0 i 5)) - (h + (M 0 i 5)) / 12 * 12) - 6)), (0, .ref (AD (78 + i))), (1, .int h)]) hx hb dX4_fading_12 rfl hl (by decide) rfl (fun ls hl => ?_)
  refine lv_iconst (v := 4) hx hb dX4_fading_13 (by decide) ?_
  refine lv_iload_n hx hb dX4_fading_14 rfl (lv_at hl 0 rfl) ?_
  refine lv_if_ge (tgt := 23) hx hb dX4_fading_15 (by decide) (fun h15 => ?_) (fun h15 => ?_)
  · refine lv_iload_n hx hb dX4_fading_23 rfl (lv_at hl 0 rfl) ?_
    refine lv_iadd hx hb dX4_fading_24 ?_
    exact gg_iret F hG rfl (by rw [fadF, if_pos h15]) rfl dX4_fading_25
  · refine lv_iload_n hx hb dX4_fading_18 rfl (lv_at hl 0 rfl) ?_
    refine lv_ineg hx hb dX4_fading_19 ?_
    refine lv_goto (tgt := 24) hx hb dX4_fading_20 (by decide) ?_
    refine lv_iadd hx hb dX4_fading_24 ?_
    exact gg_iret F hG rfl (by rw [fadF, if_neg h15]) rfl dX4_fading_25
set_option maxRecDepth 100000 in
set_option maxHeartbeats 4000000 in
theorem c_X4_daysOfMail (Z : gZ) (l : Launch) (AD : Nat → Nat) (M : St) (n : Nat) (hn : 78 ≤ n) (i : Nat) (hi : 78 + i < n) : gM Z l yX4_daysOfMail cX4_daysOfMail 1 (some .int) ({ frames := 0, cells := 0, slots := 0, locals := 0 } : Room) [.ref (AD (78 + i))] (wC Z AD M n) (some (.int (M 0 i 2 / 10 + 2))) (wC Z AD M n) 0 0 := by
  refine gM_of (by decide +kernel) (Nat.le_of_ble_eq_true rfl) ?_
  intro pP eE sS mI aA bB mE cC A F hname hG ls hl
  have hx := F.1
  have hb := F.2.1
  have hl : lv_has ls 1 [(0, .ref (AD (78 + i)))] := hl
  refine lv_aload_n hx hb dX4_daysOfMail_0 rfl (lv_at hl 0 rfl) ?_
  refine gg_get F hG (ci := 4) (v := .int (M 0 i 2)) 2 gcX4 rfl (gC_stat hi) (by decide) w2_149 rfl dX4_daysOfMail_1 ?_
  refine lv_bipush (v := 10) hx hb dX4_daysOfMail_4 (by decide) ?_
  refine lv_idiv hx hb dX4_daysOfMail_6 (by decide) ?_
  refine lv_iconst (v := 2) hx hb dX4_daysOfMail_7 (by decide) ?_
  refine lv_iadd hx hb dX4_daysOfMail_8 ?_
  exact gg_iret F hG rfl rfl rfl dX4_daysOfMail_9
set_option maxRecDepth 100000 in
set_option maxHeartbeats 4000000 in
theorem c_X1_tune (Z : gZ) (l : Launch) (AD : Nat → Nat) (M : St) (n : Nat) (hn : 78 ≤ n) (j : Nat) (hj : j < 17) (t d : Int32) : gM Z l yX1_tune cX1_tune 3 none ({ frames := 1, cells := 0, slots := 0, locals := 24 } : Room) [.ref (AD (9 + j)), .int t, .int d] (wC Z AD M n) (none) (wC Z AD (tuneF M j t d) n) 0 0 := by
  refine gM_of (by decide +kernel) (Nat.le_of_ble_eq_true rfl) ?_
  intro pP eE sS mI aA bB mE cC A F hname hG ls hl
  have hx := F.1
  have hb := F.2.1
  have hl : lv_has ls 3 [(0, .ref (AD (9 + j))), (1, .int t), (2, .int d)] := hl
  refine lv_aload_n hx hb dX1_tune_0 rfl (lv_at hl 0 rfl) ?_
  refine lv_iload_n hx hb dX1_tune_1 rfl (lv_at hl 1 rfl) ?_
  refine gg_put F hG (ci := 1) 0 gcX1 rfl (gC_cset hj hn) (by decide) w1_48 rfl rfl rfl (Nat.le_of_ble_eq_true rfl) (pC_8 hj) dX1_tune_2 (fun H locs hG => ?_)
  have hG : gG Z A sS (wC Z AD (mu M 8 j 0 t) n) H locs := hG
  refine lv_aload_n hx hb dX1_tune_5 rfl (lv_at hl 0 rfl) ?_
  refine lv_iload_n hx hb dX1_tune_6 rfl (lv_at hl 2 rfl) ?_
  refine gg_put F hG (ci := 1) 1 gcX1 rfl (gC_cset hj hn) (by decide) w1_51 rfl rfl rfl (Nat.le_of_ble_eq_true rfl) (pC_9 hj) dX1_tune_7 (fun H locs hG => ?_)
  have hG : gG Z A sS (wC Z AD (mu (mu M 8 j 0 t) 9 j 0 d) n) H locs := hG
  refine lv_aload_n hx hb dX1_tune_10 rfl (lv_at hl 0 rfl) ?_
  refine lv_ldc hx hb F.2.2.2.1 (F.2.2.2.2.1 _ w2_193) dX1_tune_11 ?_
  refine lv_iload_n hx hb dX1_tune_13 rfl (lv_at hl 1 rfl) ?_
  refine lv_iload_n hx hb dX1_tune_14 rfl (lv_at hl 2 rfl) ?_
  refine lv_iadd hx hb dX1_tune_15 ?_
  refine gg_callSN F hG (As := [.int 100000, .int (t + d)]) (rest := [.ref (AD (9 + j))]) (c_X6_quotient Z l 100000 (t + d) _) kY_X6_quotient kV_X6_quotient wn_35 rfl ⟨rfl, rfl⟩ ⟨(Nat.le_of_ble_eq_true rfl), (Nat.le_of_ble_eq_true rfl)⟩ rfl (Nat.le_of_ble_eq_true rfl) hl.1 ⟨Nat.zero_le _, Nat.zero_le _⟩ dX1_tune_16 rfl (fun H locs hG => ?_)
  refine gg_put F hG (ci := 1) 4 gcX1 rfl (gC_cset hj hn) (by decide) w1_61 rfl rfl rfl (Nat.le_of_ble_eq_true rfl) (pC_12 hj) dX1_tune_19 (fun H locs hG => ?_)
  have hG : gG Z A sS (wC Z AD (mu (mu (mu M 8 j 0 t) 9 j 0 d) 12 j 0 (quoF 100000 (t + d))) n) H locs := hG
  refine lv_aload_n hx hb dX1_tune_22 rfl (lv_at hl 0 rfl) ?_
  refine lv_bipush (v := 10) hx hb dX1_tune_23 (by decide) ?_
  refine lv_bipush (v := 80) hx hb dX1_tune_25 (by decide) ?_
  refine lv_iload_n hx hb dX1_tune_27 rfl (lv_at hl 1 rfl) ?_
  refine lv_iconst (v := 3) hx hb dX1_tune_28 (by decide) ?_
  refine lv_idiv hx hb dX1_tune_29 (by decide) ?_
  refine lv_isub hx hb dX1_tune_30 ?_
  refine gg_max F hl.1 w2_197 (Nat.le_of_ble_eq_true rfl) (Nat.le_of_ble_eq_true rfl) (Nat.zero_le _) (Nat.zero_le _) dX1_tune_31 ?_
  refine gg_put F hG (ci := 1) 5 gcX1 rfl (gC_cset hj hn) (by decide) w1_63 rfl rfl rfl (Nat.le_of_ble_eq_true rfl) (pC_13 hj) dX1_tune_34 (fun H locs hG => ?_)
  have hG : gG Z A sS (wC Z AD (mu (mu (mu (mu M 8 j 0 t) 9 j 0 d) 12 j 0 (quoF 100000 (t + d))) 13 j 0 (if 10 < 80 - (t / 3) then 80 - (t / 3) else 10)) n) H locs := hG
  exact gg_vret F hG rfl dX1_tune_37
set_option maxRecDepth 100000 in
set_option maxHeartbeats 4000000 in
theorem c_X1_copyFrom (Z : gZ) (l : Launch) (AD : Nat → Nat) (M : St) (n : Nat) (hn : 78 ≤ n) (j k : Nat) (hj : j < 17) (hk : k < 17) : gM Z l yX1_copyFrom cX1_copyFrom 2 none ({ frames := 0, cells := 0, slots := 0, locals := 0 } : Room) [.ref (AD (9 + j)), .ref (AD (9 + k))] (wC Z AD M n) (none) (wC Z AD (mu (mu (mu (mu (mu (mu M 8 j 0 (M 8 k 0)) 9 j 0 (M 9 k 0)) 10 j 0 (M 10 k 0)) 11 j 0 (M 11 k 0)) 12 j 0 (M 12 k 0)) 13 j 0 (M 13 k 0)) n) 0 0 := by
  refine gM_of (by decide +kernel) (Nat.le_of_ble_eq_true rfl) ?_
  intro pP eE sS mI aA bB mE cC A F hname hG ls hl
  have hx := F.1
  have hb := F.2.1
  have hl : lv_has ls 2 [(0, .ref (AD (9 + j))), (1, .ref (AD (9 + k)))] := hl
  refine lv_aload_n hx hb dX1_copyFrom_0 rfl (lv_at hl 0 rfl) ?_
  refine lv_aload_n hx hb dX1_copyFrom_1 rfl (lv_at hl 1 rfl) ?_
  refine gg_get F hG (ci := 1) (v := .int (M 8 k 0)) 0 gcX1 rfl (gC_cset hk hn) (by decide) w1_48 rfl dX1_copyFrom_2 ?_
  refine gg_put F hG (ci := 1) 0 gcX1 rfl (gC_cset hj hn) (by decide) w1_48 rfl rfl rfl (Nat.le_of_ble_eq_true rfl) (pC_8 hj) dX1_copyFrom_5 (fun H locs hG => ?_)
  have hG : gG Z A sS (wC Z AD (mu M 8 j 0 (M 8 k 0)) n) H locs := hG
  refine lv_aload_n hx hb dX1_copyFrom_8 rfl (lv_at hl 0 rfl) ?_
  refine lv_aload_n hx hb dX1_copyFrom_9 rfl (lv_at hl 1 rfl) ?_
  refine gg_get F hG (ci := 1) (v := .int (M 9 k 0)) 1 gcX1 rfl (gC_cset hk hn) (by decide) w1_51 rfl dX1_copyFrom_10 ?_
  refine gg_put F hG (ci := 1) 1 gcX1 rfl (gC_cset hj hn) (by decide) w1_51 rfl rfl rfl (Nat.le_of_ble_eq_true rfl) (pC_9 hj) dX1_copyFrom_13 (fun H locs hG => ?_)
  have hG : gG Z A sS (wC Z AD (mu (mu M 8 j 0 (M 8 k 0)) 9 j 0 (M 9 k 0)) n) H locs := hG
  refine lv_aload_n hx hb dX1_copyFrom_16 rfl (lv_at hl 0 rfl) ?_
  refine lv_aload_n hx hb dX1_copyFrom_17 rfl (lv_at hl 1 rfl) ?_
  refine gg_get F hG (ci := 1) (v := .int (M 10 k 0)) 2 gcX1 rfl (gC_cset hk hn) (by decide) w1_55 rfl dX1_copyFrom_18 ?_
  refine gg_put F hG (ci := 1) 2 gcX1 rfl (gC_cset hj hn) (by decide) w1_55 rfl rfl rfl (Nat.le_of_ble_eq_true rfl) (pC_10 hj) dX1_copyFrom_21 (fun H locs hG => ?_)
  have hG : gG Z A sS (wC Z AD (mu (mu (mu M 8 j 0 (M 8 k 0)) 9 j 0 (M 9 k 0)) 10 j 0 (M 10 k 0)) n) H locs := hG
  refine lv_aload_n hx hb dX1_copyFrom_24 rfl (lv_at hl 0 rfl) ?_
  refine lv_aload_n hx hb dX1_copyFrom_25 rfl (lv_at hl 1 rfl) ?_
  refine gg_get F hG (ci := 1) (v := .int (M 11 k 0)) 3 gcX1 rfl (gC_cset hk hn) (by decide) w1_58 rfl dX1_copyFrom_26 ?_
  refine gg_put F hG (ci := 1) 3 gcX1 rfl (gC_cset hj hn) (by decide) w1_58 rfl rfl rfl (Nat.le_of_ble_eq_true rfl) (pC_11 hj) dX1_copyFrom_29 (fun H locs hG => ?_)
  have hG : gG Z A sS (wC Z AD (mu (mu (mu (mu M 8 j 0 (M 8 k 0)) 9 j 0 (M 9 k 0)) 10 j 0 (M 10 k 0)) 11 j 0 (M 11 k 0)) n) H locs := hG
  refine lv_aload_n hx hb dX1_copyFrom_32 rfl (lv_at hl 0 rfl) ?_
  refine lv_aload_n hx hb dX1_copyFrom_33 rfl (lv_at hl 1 rfl) ?_
  refine gg_get F hG (ci := 1) (v := .int (M 12 k 0)) 4 gcX1 rfl (gC_cset hk hn) (by decide) w1_61 rfl dX1_copyFrom_34 ?_
  refine gg_put F hG (ci := 1) 4 gcX1 rfl (gC_cset hj hn) (by decide) w1_61 rfl rfl rfl (Nat.le_of_ble_eq_true rfl) (pC_12 hj) dX1_copyFrom_37 (fun H locs hG => ?_)
  have hG : gG Z A sS (wC Z AD (mu (mu (mu (mu (mu M 8 j 0 (M 8 k 0)) 9 j 0 (M 9 k 0)) 10 j 0 (M 10 k 0)) 11 j 0 (M 11 k 0)) 12 j 0 (M 12 k 0)) n) H locs := hG
  refine lv_aload_n hx hb dX1_copyFrom_40 rfl (lv_at hl 0 rfl) ?_
  refine lv_aload_n hx hb dX1_copyFrom_41 rfl (lv_at hl 1 rfl) ?_
  refine gg_get F hG (ci := 1) (v := .int (M 13 k 0)) 5 gcX1 rfl (gC_cset hk hn) (by decide) w1_63 rfl dX1_copyFrom_42 ?_
  refine gg_put F hG (ci := 1) 5 gcX1 rfl (gC_cset hj hn) (by decide) w1_63 rfl rfl rfl (Nat.le_of_ble_eq_true rfl) (pC_13 hj) dX1_copyFrom_45 (fun H locs hG => ?_)
  have hG : gG Z A sS (wC Z AD (mu (mu (mu (mu (mu (mu M 8 j 0 (M 8 k 0)) 9 j 0 (M 9 k 0)) 10 j 0 (M 10 k 0)) 11 j 0 (M 11 k 0)) 12 j 0 (M 12 k 0)) 13 j 0 (M 13 k 0)) n) H locs := hG
  exact gg_vret F hG rfl dX1_copyFrom_48
set_option maxRecDepth 100000 in
set_option maxHeartbeats 4000000 in
theorem c_X1_strengthOf (Z : gZ) (l : Launch) (AD : Nat → Nat) (M : St) (n : Nat) (hn : 78 ≤ n) (j i : Nat) (hj : j < 17) (hi : 78 + i < n) (h : Int32) : gM Z l yX1_strengthOf cX1_strengthOf 5 (some .int) ({ frames := 1, cells := 0, slots := 0, locals := 22 } : Room) [.ref (AD (9 + j)), .ref (AD (78 + i)), .int h] (wC Z AD M n) (some (.int (strF M j i h))) (wC Z AD M n) 0 0 := by
  refine gM_of (by decide +kernel) (Nat.le_of_ble_eq_true rfl) ?_
  intro pP eE sS mI aA bB mE cC A F hname hG ls hl
  have hx := F.1
  have hb := F.2.1
  have hl : lv_has ls 5 [(0, .ref (AD (9 + j))), (1, .ref (AD (78 + i))), (2, .int h)] := hl
  refine lv_aload_n hx hb dX1_strengthOf_0 rfl (lv_at hl 0 rfl) ?_
  refine gg_get F hG (ci := 1) (v := .int (M 13 j 0)) 5 gcX1 rfl (gC_cset hj hn) (by decide) w1_63 rfl dX1_strengthOf_1 ?_
  refine lv_aload_n hx hb dX1_strengthOf_4 rfl (lv_at hl 1 rfl) ?_
  refine gg_getN F hG (ci := 4) (v := .int (M 0 i 0)) 0 gcX4 rfl (gC_stat hi) (by decide) wn_29 rfl dX1_strengthOf_5 ?_
  refine lv_aload_n hx hb dX1_strengthOf_8 rfl (lv_at hl 0 rfl) ?_
  refine gg_get F hG (ci := 1) (v := .int (M 12 j 0)) 4 gcX1 rfl (gC_cset hj hn) (by decide) w1_61 rfl dX1_strengthOf_9 ?_
  refine gg_callSN F hG (As := [.int (M 0 i 0), .int (M 12 j 0)]) (rest := [.int (M 13 j 0)]) (c_X6_distance Z l (M 0 i 0) (M 12 j 0) _) kY_X6_distance kV_X6_distance wn_36 rfl ⟨rfl, rfl⟩ ⟨(Nat.le_of_ble_eq_true rfl), (Nat.le_of_ble_eq_true rfl)⟩ rfl (Nat.le_of_ble_eq_true rfl) hl.1 ⟨Nat.zero_le _, Nat.zero_le _⟩ dX1_strengthOf_12 rfl (fun H locs hG => ?_)
  refine lv_isub hx hb dX1_strengthOf_15 ?_
  refine lv_istore_n (lv' := [(3, .int ((M 13 j 0) - (distF (M 0 i 0) (M 12 j 0)))), (0, .ref (AD (9 + j))), (1, .ref (AD (78 + i))), (2, .int h)]) hx hb dX1_strengthOf_16 rfl hl (by decide) rfl (fun ls hl => ?_)
  refine lv_iload_n hx hb dX1_strengthOf_17 rfl (lv_at hl 0 rfl) ?_
  refine lv_if_gt (tgt := 23) hx hb dX1_strengthOf_18 (by decide) (fun h18 => ?_) (fun h18 => ?_)
  · refine lv_aload_n hx hb dX1_strengthOf_23 rfl (lv_at hl 2 rfl) ?_
    refine gg_getN F hG (ci := 4) (v := .int (M 0 i 1)) 1 gcX4 rfl (gC_stat hi) (by decide) wn_31 rfl dX1_strengthOf_24 ?_
    refine lv_aload_n hx hb dX1_strengthOf_27 rfl (lv_at hl 2 rfl) ?_
    refine lv_iload_n hx hb dX1_strengthOf_28 rfl (lv_at hl 3 rfl) ?_
    refine gg_callV F hG (ci := 4) (As := [.int h]) (rest := [.int (M 0 i 1)]) (c_X4_fading Z l AD M _ hn i hi h) kY_X4_fading kV_X4_fading (gC_stat hi) rfl rfl w3_56 rfl ⟨rfl, rfl⟩ ⟨(Nat.le_of_ble_eq_true rfl), (Nat.le_of_ble_eq_true rfl)⟩ rfl (Nat.le_of_ble_eq_true rfl) hl.1 ⟨Nat.zero_le _, Nat.zero_le _⟩ dX1_strengthOf_29 rfl (fun H locs hG => ?_)
    refine lv_imul hx hb dX1_strengthOf_32 ?_
    refine lv_aload_n hx hb dX1_strengthOf_33 rfl (lv_at hl 1 rfl) ?_
    refine gg_get F hG (ci := 1) (v := .int (M 10 j 0)) 2 gcX1 rfl (gC_cset hj hn) (by decide) w1_55 rfl dX1_strengthOf_34 ?_
    refine lv_imul hx hb dX1_strengthOf_37 ?_
    refine lv_bipush (v := 10) hx hb dX1_strengthOf_38 (by decide) ?_
    refine lv_aload_n hx hb dX1_strengthOf_40 rfl (lv_at hl 2 rfl) ?_
    refine gg_getN F hG (ci := 4) (v := .int (M 0 i 2)) 2 gcX4 rfl (gC_stat hi) (by decide) wn_33 rfl dX1_strengthOf_41 ?_
    refine lv_imul hx hb dX1_strengthOf_44 ?_
    refine gg_callSN F hG (As := [.int (((M 0 i 1) * (fadF (M 0 i 5) h)) * (M 10 j 0)), .int (10 * (M 0 i 2))]) (rest := []) (c_X6_quotient Z l (((M 0 i 1) * (fadF (M 0 i 5) h)) * (M 10 j 0)) (10 * (M 0 i 2)) _) kY_X6_quotient kV_X6_quotient wn_35 rfl ⟨rfl, rfl⟩ ⟨(Nat.le_of_ble_eq_true rfl), (Nat.le_of_ble_eq_true rfl)⟩ rfl (Nat.le_of_ble_eq_true rfl) hl.1 ⟨Nat.zero_le _, Nat.zero_le _⟩ dX1_strengthOf_45 rfl (fun H locs hG => ?_)
    refine lv_istore (lv' := [(4, .int (quoF (((M 0 i 1) * (fadF (M 0 i 5) h)) * (M 10 j 0)) (10 * (M 0 i 2)))), (3, .int ((M 13 j 0) - (distF (M 0 i 0) (M 12 j 0)))), (0, .ref (AD (9 + j))), (1, .ref (AD (78 + i))), (2, .int h)]) hx hb dX1_strengthOf_48 hl (by decide) rfl (fun ls hl => ?_)
    refine lv_iload hx hb dX1_strengthOf_50 (lv_at hl 0 rfl) ?_
    refine lv_iload_n hx hb dX1_strengthOf_52 rfl (lv_at hl 1 rfl) ?_
    refine lv_imul hx hb dX1_strengthOf_53 ?_
    refine lv_aload_n hx hb dX1_strengthOf_54 rfl (lv_at hl 2 rfl) ?_
    refine gg_get F hG (ci := 1) (v := .int (M 13 j 0)) 5 gcX1 rfl (gC_cset hj hn) (by decide) w1_63 rfl dX1_strengthOf_55 ?_
    refine gg_callSN F hG (As := [.int ((quoF (((M 0 i 1) * (fadF (M 0 i 5) h)) * (M 10 j 0)) (10 * (M 0 i 2))) * ((M 13 j 0) - (distF (M 0 i 0) (M 12 j 0)))), .int (M 13 j 0)]) (rest := []) (c_X6_quotient Z l ((quoF (((M 0 i 1) * (fadF (M 0 i 5) h)) * (M 10 j 0)) (10 * (M 0 i 2))) * ((M 13 j 0) - (distF (M 0 i 0) (M 12 j 0)))) (M 13 j 0) _) kY_X6_quotient kV_X6_quotient wn_35 rfl ⟨rfl, rfl⟩ ⟨(Nat.le_of_ble_eq_true rfl), (Nat.le_of_ble_eq_true rfl)⟩ rfl (Nat.le_of_ble_eq_true rfl) hl.1 ⟨Nat.zero_le _, Nat.zero_le _⟩ dX1_strengthOf_58 rfl (fun H locs hG => ?_)
    refine lv_iconst (v := 1) hx hb dX1_strengthOf_61 (by decide) ?_
    refine lv_aload_n hx hb dX1_strengthOf_62 rfl (lv_at hl 2 rfl) ?_
    refine gg_get F hG (ci := 1) (v := .int (M 11 j 0)) 3 gcX1 rfl (gC_cset hj hn) (by decide) w1_58 rfl dX1_strengthOf_63 ?_
    refine lv_iadd hx hb dX1_strengthOf_66 ?_
    refine lv_imul hx hb dX1_strengthOf_67 ?_
    refine lv_bipush (v := 10) hx hb dX1_strengthOf_68 (by decide) ?_
    refine lv_idiv hx hb dX1_strengthOf_70 (by decide) ?_
    exact gg_iret F hG rfl (by rw [strF, strN, if_pos h18]) rfl dX1_strengthOf_71
  · refine lv_iconst (v := 0) hx hb dX1_strengthOf_21 (by decide) ?_
    exact gg_iret F hG rfl (by rw [strF, strN, if_neg h18]) rfl dX1_strengthOf_22
set_option maxRecDepth 100000 in
set_option maxHeartbeats 4000000 in
theorem c_X2_clear (Z : gZ) (l : Launch) (AD : Nat → Nat) (M : St) (n : Nat) (hn : 78 ≤ n) (c : Nat) (hc : c < 2) : gM Z l yX2_clear cX2_clear 1 none ({ frames := 0, cells := 0, slots := 0, locals := 0 } : Room) [.ref (AD (7 + c))] (wC Z AD M n) (none) (wC Z AD (setQ M c (0, -1, 0, 0)) n) 0 0 := by
  refine gM_of (by decide +kernel) (Nat.le_of_ble_eq_true rfl) ?_
  intro pP eE sS mI aA bB mE cC A F hname hG ls hl
  have hx := F.1
  have hb := F.2.1
  have hl : lv_has ls 1 [(0, .ref (AD (7 + c)))] := hl
  refine lv_aload_n hx hb dX2_clear_0 rfl (lv_at hl 0 rfl) ?_
  refine lv_iconst (v := 0) hx hb dX2_clear_1 (by decide) ?_
  refine gg_put F hG (ci := 2) 0 gcX2 rfl (gC_hear hc hn) (by decide) w1_126 rfl rfl rfl (Nat.le_of_ble_eq_true rfl) (pC_4 hc) dX2_clear_2 (fun H locs hG => ?_)
  have hG : gG Z A sS (wC Z AD (mu M 4 c 0 0) n) H locs := hG
  refine lv_aload_n hx hb dX2_clear_5 rfl (lv_at hl 0 rfl) ?_
  refine lv_iconst (v := (-1)) hx hb dX2_clear_6 (by decide) ?_
  refine gg_put F hG (ci := 2) 1 gcX2 rfl (gC_hear hc hn) (by decide) w1_127 rfl rfl rfl (Nat.le_of_ble_eq_true rfl) (pC_5 hc) dX2_clear_7 (fun H locs hG => ?_)
  have hG : gG Z A sS (wC Z AD (mu (mu M 4 c 0 0) 5 c 0 (-1)) n) H locs := hG
  refine lv_aload_n hx hb dX2_clear_10 rfl (lv_at hl 0 rfl) ?_
  refine lv_iconst (v := 0) hx hb dX2_clear_11 (by decide) ?_
  refine gg_put F hG (ci := 2) 2 gcX2 rfl (gC_hear hc hn) (by decide) w1_128 rfl rfl rfl (Nat.le_of_ble_eq_true rfl) (pC_6 hc) dX2_clear_12 (fun H locs hG => ?_)
  have hG : gG Z A sS (wC Z AD (mu (mu (mu M 4 c 0 0) 5 c 0 (-1)) 6 c 0 0) n) H locs := hG
  refine lv_aload_n hx hb dX2_clear_15 rfl (lv_at hl 0 rfl) ?_
  refine lv_iconst (v := 0) hx hb dX2_clear_16 (by decide) ?_
  refine gg_put F hG (ci := 2) 3 gcX2 rfl (gC_hear hc hn) (by decide) w1_130 rfl rfl rfl (Nat.le_of_ble_eq_true rfl) (pC_7 hc) dX2_clear_17 (fun H locs hG => ?_)
  have hG : gG Z A sS (wC Z AD (mu (mu (mu (mu M 4 c 0 0) 5 c 0 (-1)) 6 c 0 0) 7 c 0 0) n) H locs := hG
  exact gg_vret F hG (congrArg (fun q => wC Z AD q n) (setH_ext (fun f i j h => by rw [mu_of (by omega), mu_of (by omega), mu_of (by omega), mu_of (by omega)]) (by simp [mu, upd]) (by simp [mu, upd]) (by simp [mu, upd]) (by simp [mu, upd]))) dX2_clear_20
set_option maxRecDepth 100000 in
set_option maxHeartbeats 4000000 in
theorem c_X2_offer (Z : gZ) (l : Launch) (AD : Nat → Nat) (M : St) (n : Nat) (hn : 78 ≤ n) (c : Nat) (hc : c < 2) (k st : Int32) : gM Z l yX2_offer cX2_offer 3 none ({ frames := 0, cells := 0, slots := 0, locals := 0 } : Room) [.ref (AD (7 + c)), .int k, .int st] (wC Z AD M n) (none) (wC Z AD (setQ M c (hstep (getQ M c) k st)) n) 0 0 := by
  refine gM_of (by decide +kernel) (Nat.le_of_ble_eq_true rfl) ?_
  intro pP eE sS mI aA bB mE cC A F hname hG ls hl
  have hx := F.1
  have hb := F.2.1
  have hl : lv_has ls 3 [(0, .ref (AD (7 + c))), (1, .int k), (2, .int st)] := hl
  refine lv_iload_n hx hb dX2_offer_0 rfl (lv_at hl 2 rfl) ?_
  refine lv_if_gt (tgt := 5) hx hb dX2_offer_1 (by decide) (fun h1 => ?_) (fun h1 => ?_)
  · refine lv_aload_n hx hb dX2_offer_5 rfl (lv_at hl 0 rfl) ?_
    refine lv_dup hx hb dX2_offer_6 rfl ?_
    refine gg_get F hG (ci := 2) (v := .int (M 4 c 0)) 0 gcX2 rfl (gC_hear hc hn) (by decide) w1_126 rfl dX2_offer_7 ?_
    refine lv_iconst (v := 1) hx hb dX2_offer_10 (by decide) ?_
    refine lv_iadd hx hb dX2_offer_11 ?_
    refine gg_put F hG (ci := 2) 0 gcX2 rfl (gC_hear hc hn) (by decide) w1_126 rfl rfl rfl (Nat.le_of_ble_eq_true rfl) (pC_4 hc) dX2_offer_12 (fun H locs hG => ?_)
    have hG : gG Z A sS (wC Z AD (mu M 4 c 0 ((M 4 c 0) + 1)) n) H locs := hG
    refine lv_iload_n hx hb dX2_offer_15 rfl (lv_at hl 2 rfl) ?_
    refine lv_aload_n hx hb dX2_offer_16 rfl (lv_at hl 0 rfl) ?_
    refine gg_get F hG (ci := 2) (v := .int (M 6 c 0)) 2 gcX2 rfl (gC_hear hc hn) (by decide) w1_128 rfl dX2_offer_17 ?_
    refine lv_icmp_le (tgt := 44) hx hb dX2_offer_20 (by decide) (fun h20 => ?_) (fun h20 => ?_)
    · refine lv_iload_n hx hb dX2_offer_44 rfl (lv_at hl 2 rfl) ?_
      refine lv_aload_n hx hb dX2_offer_45 rfl (lv_at hl 0 rfl) ?_
      refine gg_get F hG (ci := 2) (v := .int (M 7 c 0)) 3 gcX2 rfl (gC_hear hc hn) (by decide) w1_130 rfl dX2_offer_46 ?_
      refine lv_icmp_le (tgt := 57) hx hb dX2_offer_49 (by decide) (fun h49 => ?_) (fun h49 => ?_)
      · exact gg_vret F hG (congrArg (fun q => wC Z AD q n) (Eq.trans (setH_ext (fun f i j h => by rw [mu_of (by omega)]) (by simp [mu, upd, getQ]) (by simp [mu, upd, getQ]) (by simp [mu, upd, getQ]) (by simp [mu, upd, getQ])) (congrArg (setQ M c) (Eq.symm ((if_pos h1).trans ((if_pos h20).trans (if_pos h49))))))) dX2_offer_57
      · refine lv_aload_n hx hb dX2_offer_52 rfl (lv_at hl 0 rfl) ?_
        refine lv_iload_n hx hb dX2_offer_53 rfl (lv_at hl 2 rfl) ?_
        refine gg_put F hG (ci := 2) 3 gcX2 rfl (gC_hear hc hn) (by decide) w1_130 rfl rfl rfl (Nat.le_of_ble_eq_true rfl) (pC_7 hc) dX2_offer_54 (fun H locs hG => ?_)
        have hG : gG Z A sS (wC Z AD (mu (mu M 4 c 0 ((M 4 c 0) + 1)) 7 c 0 st) n) H locs := hG
        exact gg_vret F hG (congrArg (fun q => wC Z AD q n) (Eq.trans (setH_ext (fun f i j h => by rw [mu_of (by omega), mu_of (by omega)]) (by simp [mu, upd, getQ]) (by simp [mu, upd, getQ]) (by simp [mu, upd, getQ]) (by simp [mu, upd, getQ])) (congrArg (setQ M c) (Eq.symm ((if_pos h1).trans ((if_pos h20).trans (if_neg h49))))))) dX2_offer_57
    · refine lv_aload_n hx hb dX2_offer_23 rfl (lv_at hl 0 rfl) ?_
      refine lv_aload_n hx hb dX2_offer_24 rfl (lv_at hl 0 rfl) ?_
      refine gg_get F hG (ci := 2) (v := .int (M 6 c 0)) 2 gcX2 rfl (gC_hear hc hn) (by decide) w1_128 rfl dX2_offer_25 ?_
      refine gg_put F hG (ci := 2) 3 gcX2 rfl (gC_hear hc hn) (by decide) w1_130 rfl rfl rfl (Nat.le_of_ble_eq_true rfl) (pC_7 hc) dX2_offer_28 (fun H locs hG => ?_)
      have hG : gG Z A sS (wC Z AD (mu (mu M 4 c 0 ((M 4 c 0) + 1)) 7 c 0 (M 6 c 0)) n) H locs := hG
      refine lv_aload_n hx hb dX2_offer_31 rfl (lv_at hl 0 rfl) ?_
      refine lv_iload_n hx hb dX2_offer_32 rfl (lv_at hl 2 rfl) ?_
      refine gg_put F hG (ci := 2) 2 gcX2 rfl (gC_hear hc hn) (by decide) w1_128 rfl rfl rfl (Nat.le_of_ble_eq_true rfl) (pC_6 hc) dX2_offer_33 (fun H locs hG => ?_)
      have hG : gG Z A sS (wC Z AD (mu (mu (mu M 4 c 0 ((M 4 c 0) + 1)) 7 c 0 (M 6 c 0)) 6 c 0 st) n) H locs := hG
      refine lv_aload_n hx hb dX2_offer_36 rfl (lv_at hl 0 rfl) ?_
      refine lv_iload_n hx hb dX2_offer_37 rfl (lv_at hl 1 rfl) ?_
      refine gg_put F hG (ci := 2) 1 gcX2 rfl (gC_hear hc hn) (by decide) w1_127 rfl rfl rfl (Nat.le_of_ble_eq_true rfl) (pC_5 hc) dX2_offer_38 (fun H locs hG => ?_)
      have hG : gG Z A sS (wC Z AD (mu (mu (mu (mu M 4 c 0 ((M 4 c 0) + 1)) 7 c 0 (M 6 c 0)) 6 c 0 st) 5 c 0 k) n) H locs := hG
      refine lv_goto (tgt := 57) hx hb dX2_offer_41 (by decide) ?_
      exact gg_vret F hG (congrArg (fun q => wC Z AD q n) (Eq.trans (setH_ext (fun f i j h => by rw [mu_of (by omega), mu_of (by omega), mu_of (by omega), mu_of (by omega)]) (by simp [mu, upd, getQ]) (by simp [mu, upd, getQ]) (by simp [mu, upd, getQ]) (by simp [mu, upd, getQ])) (congrArg (setQ M c) (Eq.symm ((if_pos h1).trans (if_neg h20)))))) dX2_offer_57
  · exact gg_vret F hG (congrArg (fun q => wC Z AD q n) (setQ_g.symm.trans (congrArg (setQ M c) (Eq.symm (if_neg h1))))) dX2_offer_4
set_option maxRecDepth 100000 in
set_option maxHeartbeats 4000000 in
theorem c_X2_verdict (Z : gZ) (l : Launch) (AD : Nat → Nat) (M : St) (n : Nat) (hn : 78 ≤ n) (c : Nat) (hc : c < 2) : gM Z l yX2_verdict cX2_verdict 1 (some .int) ({ frames := 0, cells := 0, slots := 0, locals := 0 } : Room) [.ref (AD (7 + c))] (wC Z AD M n) (some (.int (verQ (getQ M c)))) (wC Z AD M n) 0 0 := by
  refine gM_of (by decide +kernel) (Nat.le_of_ble_eq_true rfl) ?_
  intro pP eE sS mI aA bB mE cC A F hname hG ls hl
  have hx := F.1
  have hb := F.2.1
  have hl : lv_has ls 1 [(0, .ref (AD (7 + c)))] := hl
  refine lv_aload_n hx hb dX2_verdict_0 rfl (lv_at hl 0 rfl) ?_
  refine gg_get F hG (ci := 2) (v := .int (M 6 c 0)) 2 gcX2 rfl (gC_hear hc hn) (by decide) w1_128 rfl dX2_verdict_1 ?_
  refine lv_iconst (v := 5) hx hb dX2_verdict_4 (by decide) ?_
  refine lv_icmp_lt (tgt := 26) hx hb dX2_verdict_5 (by decide) (fun h5 => ?_) (fun h5 => ?_)
  · refine lv_aload_n hx hb dX2_verdict_26 rfl (lv_at hl 0 rfl) ?_
    refine gg_get F hG (ci := 2) (v := .int (M 4 c 0)) 0 gcX2 rfl (gC_hear hc hn) (by decide) w1_126 rfl dX2_verdict_27 ?_
    refine lv_iconst (v := 2) hx hb dX2_verdict_30 (by decide) ?_
    refine lv_icmp_lt (tgt := 39) hx hb dX2_verdict_31 (by decide) (fun h31 => ?_) (fun h31 => ?_)
    · refine lv_iconst (v := (-1)) hx hb dX2_verdict_39 (by decide) ?_
      exact gg_iret F hG rfl (Eq.symm ((if_pos h5).trans (if_pos h31))) rfl dX2_verdict_40
    · refine lv_bipush (v := (-2)) hx hb dX2_verdict_34 (by decide) ?_
      refine lv_goto (tgt := 40) hx hb dX2_verdict_36 (by decide) ?_
      exact gg_iret F hG rfl (Eq.symm ((if_pos h5).trans (if_neg h31))) rfl dX2_verdict_40
  · refine lv_iconst (v := 2) hx hb dX2_verdict_8 (by decide) ?_
    refine lv_aload_n hx hb dX2_verdict_9 rfl (lv_at hl 0 rfl) ?_
    refine gg_get F hG (ci := 2) (v := .int (M 7 c 0)) 3 gcX2 rfl (gC_hear hc hn) (by decide) w1_130 rfl dX2_verdict_10 ?_
    refine lv_imul hx hb dX2_verdict_13 ?_
    refine lv_aload_n hx hb dX2_verdict_14 rfl (lv_at hl 0 rfl) ?_
    refine gg_get F hG (ci := 2) (v := .int (M 6 c 0)) 2 gcX2 rfl (gC_hear hc hn) (by decide) w1_128 rfl dX2_verdict_15 ?_
    refine lv_icmp_gt (tgt := 26) hx hb dX2_verdict_18 (by decide) (fun h18 => ?_) (fun h18 => ?_)
    · refine lv_aload_n hx hb dX2_verdict_26 rfl (lv_at hl 0 rfl) ?_
      refine gg_get F hG (ci := 2) (v := .int (M 4 c 0)) 0 gcX2 rfl (gC_hear hc hn) (by decide) w1_126 rfl dX2_verdict_27 ?_
      refine lv_iconst (v := 2) hx hb dX2_verdict_30 (by decide) ?_
      refine lv_icmp_lt (tgt := 39) hx hb dX2_verdict_31 (by decide) (fun h31 => ?_) (fun h31 => ?_)
      · refine lv_iconst (v := (-1)) hx hb dX2_verdict_39 (by decide) ?_
        exact gg_iret F hG rfl (Eq.symm ((if_neg h5).trans ((if_pos h18).trans (if_pos h31)))) rfl dX2_verdict_40
      · refine lv_bipush (v := (-2)) hx hb dX2_verdict_34 (by decide) ?_
        refine lv_goto (tgt := 40) hx hb dX2_verdict_36 (by decide) ?_
        exact gg_iret F hG rfl (Eq.symm ((if_neg h5).trans ((if_pos h18).trans (if_neg h31)))) rfl dX2_verdict_40
    · refine lv_aload_n hx hb dX2_verdict_21 rfl (lv_at hl 0 rfl) ?_
      refine gg_get F hG (ci := 2) (v := .int (M 5 c 0)) 1 gcX2 rfl (gC_hear hc hn) (by decide) w1_127 rfl dX2_verdict_22 ?_
      exact gg_iret F hG rfl (Eq.symm ((if_neg h5).trans (if_neg h18))) rfl dX2_verdict_25
