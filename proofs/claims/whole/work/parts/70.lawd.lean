/-! a call of the law, the relation before and behind it -/
/-- the class's world beside the reference's numbers -/
def LI (Z : gZ) (ax Hm : Nat) (ws2 : va_W) (N : St) : Prop := ∃ (AD : Nat → Nat) (M : St) (ns nm H : Nat), ws2 = wC Z AD M (78 + ns) ∧ AD 0 = ax ∧ Rel M N ns nm H ∧ H ≤ Hm
def LK (p : Program) (l : Launch) (e : Env) (s : State) (m : MethodId) (below : List Frame) (meth : Method) (c : Code) (Q : State → Prop) (Z : gZ) (cL : ClassId) (A : Nat → Prop) (b i ax o : Nat) (AR : Nat → Nat) (Hm cells slots : Nat) : Prop := ∀ (H : Heap) (locs : List Loc) (ws2 : va_W) (g : Nat → Int64) (N' : St) (ls : Array Slot), LI Z ax Hm ws2 N' → gG Z A s ((ws2 ++ [(o, outE cL g)]) ++ wR Z AR N' 16) H locs → lv_has ls 9 [(0, .ref b), (1, .ref ax), (2, .ref (AR 0)), (3, .ref o), (4, .int (nI i))] → W p l e room_1 s m #[Value.ref b] below meth c H locs cells slots Q (F0 m 1524 ls [])
def lawS (p : Program) (l : Launch) (s : State) (m : MethodId) (meth : Method) (c : Code) (Z : gZ) (cL : ClassId) (A : Nat → Prop) (b L : Nat) (xs : Nat → Int32) : Prop := gF Z p m s #[Value.ref b] meth c cL_law 9 RL ret ∧ xK s ∧ xZ A s s.heap ∧ gKL Z cL s ∧ nC s ∧ va_X b L xs s s.heap ∧ b < s.heap.size ∧ ¬ A b ∧ L ≤ 3584 ∧ l.stackTraces = false
theorem ix {n : Nat} (hn : n < 2 ^ 30) (x : Int32) : (x < 0 ∨ nI n ≤ x) ∨ ∃ j, j < n ∧ x = nI j := by
  by_cases h1 : x < 0
  · exact Or.inl (Or.inl h1)
  · by_cases h2 : nI n ≤ x
    · exact Or.inl (Or.inr h2)
    · have a1 : ¬ x.toInt < (0 : Int32).toInt := fun z => h1 (i_lt.mpr z)
      have a2 : ¬ (nI n).toInt ≤ x.toInt := fun z => h2 (i_le.mpr z)
      rw [nI_toInt (by omega)] at a2
      rw [show (0 : Int32).toInt = 0 from rfl] at a1
      refine Or.inr ⟨x.toInt.toNat, by omega, Int32.toInt_inj.mp ?_⟩
      rw [nI_toInt (by omega)]
      omega
theorem ix_n {n : Nat} {y : Int32} (h : y < 0 ∨ nI n ≤ y) : y < 0 ∨ ¬ y < nI n := h.imp id (fun z => Int32.not_lt.mpr z)
theorem ix_w {n : Nat} (hn : n < 2 ^ 30) {y : Int32} (h : y < 0 ∨ nI (n + 1) ≤ y) : wthF y 0 (nI n) = 0 := by
  refine wth_0 (h.imp id (fun z => ?_))
  have := i_le.mp z
  refine i_lt.mpr ?_
  rw [nI_toInt (by omega)] at this ⊢
  omega
theorem ix_L {n : Nat} (hn : n < 2 ^ 30) {y : Int32} (h : y < 0 ∨ nI n ≤ y) : wthF y 0 (nI n - 1) = 0 := by
  refine wth_0 (h.imp id (fun z => ?_))
  have := i_le.mp z
  refine i_lt.mpr ?_
  have e : (nI n - 1).toInt = (n : Int) - 1 := pk_sub_toInt (b := 1) hn (by omega)
  rw [e]
  rw [nI_toInt (by omega)] at this
  omega
section DO
variable {p : Program} {l : Launch} {e : Env} {s : State} {m : MethodId} {below : List Frame} {meth : Method} {c : Code} {H : Heap} {locs : List Loc} {cells slots : Nat} {Q : State → Prop} {Z : gZ} {cL : ClassId} {A : Nat → Prop} {ls : Array Slot} {b L : Nat} {xs : Nat → Int32}
variable {i : Nat} {ax o : Nat} {AR : Nat → Nat} {ws1 : va_W} {f : Nat → Int64} {N : St} {Hm : Nat}
set_option maxRecDepth 100000 in
set_option maxHeartbeats 4000000 in
theorem do_addStation (S : lawS p l s m meth c Z cL A b L xs) (hi : i + 6 < L) (hI : LI Z ax Hm ws1 N) (hHm : Hm ≤ 200000) (hl : lv_has ls 9 [(0, .ref b), (1, .ref ax), (2, .ref (AR 0)), (3, .ref o), (4, .int (nI i))]) (G : gG Z A s ((ws1 ++ [(o, outE cL f)]) ++ wR Z AR N 16) H locs) (hroom : cells + 2 ≤ room_1.cells ∧ slots + 12 ≤ room_1.slots) (kk : LK p l e s m below meth c Q Z cL A b i ax o AR (Hm + 240) (cells + 2) (slots + 12)) : W p l e room_1 s m #[Value.ref b] below meth c H locs cells slots Q (F0 m 140 ls []) := by
  obtain ⟨F, hxK, hxZ, hKL, hnC, hX, hbl, hbA, hL3, hst⟩ := S
  obtain ⟨AD, M, ns, nm, H0, rfl, rfl, hr, hH⟩ := hI
  have hS := hr.2.1
  have hM := hr.2.2.1
  have hZ := hr.okZ
  have hN := hr.okN
  have hXR := hr.okX
  have hns := hS.2.1
  have hnm := hM.2
  have hw : ∀ (x : Int32) (lo hi : Nat), lo < 2 ^ 30 → hi < 2 ^ 30 → wthF x (nI lo) (nI hi) = 0 ∨ (wthF x (nI lo) (nI hi) = 1 ∧ ¬ x < nI lo ∧ ¬ nI hi < x ∧ ∃ n, x = nI n ∧ lo ≤ n ∧ n ≤ hi) := by
    intro x lo hi h1 h2
    by_cases z1 : x < nI lo
    · exact Or.inl (wth_0 (Or.inl z1))
    · by_cases z2 : nI hi < x
      · exact Or.inl (wth_0 (Or.inr z2))
      · exact Or.inr ⟨wth_1 z1 z2, z1, z2, in_nat h1 h2 z1 z2⟩
  rcases hw (xs (i + 1)) 300 3000 (by omega) (by omega) with z0 | ⟨z0, a0, b0, n0, e0, c0, d0⟩
  · skip
    exact law_addStation (mc := 1) (ms := 6) (mc2 := 0) (ms2 := 0) F hxK hxZ hKL hnC hX hbl hbA hL3 hi hl G (C := fun w => LI Z (AD 0) (Hm + 240) w (mu (mu N 1 0 0 0) 1 0 0 1)) rfl rfl rfl rfl rfl rfl (l_addStation_IA (gC_root (by omega)) _ _ _ _ _ _ ⟨rfl, rfl⟩ (x_X6_addStation_a Z l hst AD M (78 + ns) (by omega) (xs (i + 1)) (xs (i + 2)) (xs (i + 3)) (xs (i + 4)) (xs (i + 5)) (xs (i + 6)) (Or.inl z0))) ⟨rfl, rfl⟩ ⟨Nat.le_of_ble_eq_true rfl, Nat.le_of_ble_eq_true rfl⟩ (c_X8_addStation_a Z l AR N 16 (Nat.le_refl 16) ns nm hN (xs (i + 1)) (xs (i + 2)) (xs (i + 3)) (xs (i + 4)) (xs (i + 5)) (xs (i + 6)) (Or.inl z0)) ⟨rfl, rfl⟩ ⟨Nat.le_of_ble_eq_true rfl, Nat.le_of_ble_eq_true rfl⟩ ⟨by omega, by omega⟩ mu_s (fun w hw => ⟨_, f, hw, fun h => absurd h (by decide), AD, M, ns, nm, H0, rfl, rfl, hr.z.z, by omega⟩) (fun H locs w g ls hC G hl => W.widen (by omega) (by omega) (kk H locs w g _ ls hC G hl))
  rcases hw (xs (i + 2)) 1 100 (by omega) (by omega) with z1 | ⟨z1, a1, b1, n1, e1, c1, d1⟩
  · skip
    exact law_addStation (mc := 1) (ms := 6) (mc2 := 0) (ms2 := 0) F hxK hxZ hKL hnC hX hbl hbA hL3 hi hl G (C := fun w => LI Z (AD 0) (Hm + 240) w (mu (mu N 1 0 0 0) 1 0 0 1)) rfl rfl rfl rfl rfl rfl (l_addStation_IA (gC_root (by omega)) _ _ _ _ _ _ ⟨rfl, rfl⟩ (x_X6_addStation_a Z l hst AD M (78 + ns) (by omega) (xs (i + 1)) (xs (i + 2)) (xs (i + 3)) (xs (i + 4)) (xs (i + 5)) (xs (i + 6)) (Or.inr (Or.inl z1)))) ⟨rfl, rfl⟩ ⟨Nat.le_of_ble_eq_true rfl, Nat.le_of_ble_eq_true rfl⟩ (c_X8_addStation_a Z l AR N 16 (Nat.le_refl 16) ns nm hN (xs (i + 1)) (xs (i + 2)) (xs (i + 3)) (xs (i + 4)) (xs (i + 5)) (xs (i + 6)) (Or.inr (Or.inl z1))) ⟨rfl, rfl⟩ ⟨Nat.le_of_ble_eq_true rfl, Nat.le_of_ble_eq_true rfl⟩ ⟨by omega, by omega⟩ mu_s (fun w hw => ⟨_, f, hw, fun h => absurd h (by decide), AD, M, ns, nm, H0, rfl, rfl, hr.z.z, by omega⟩) (fun H locs w g ls hC G hl => W.widen (by omega) (by omega) (kk H locs w g _ ls hC G hl))
  rcases hw (xs (i + 3)) 1 50 (by omega) (by omega) with z2 | ⟨z2, a2, b2, n2, e2, c2, d2⟩
  · skip
    exact law_addStation (mc := 1) (ms := 6) (mc2 := 0) (ms2 := 0) F hxK hxZ hKL hnC hX hbl hbA hL3 hi hl G (C := fun w => LI Z (AD 0) (Hm + 240) w (mu (mu N 1 0 0 0) 1 0 0 1)) rfl rfl rfl rfl rfl rfl (l_addStation_IA (gC_root (by omega)) _ _ _ _ _ _ ⟨rfl, rfl⟩ (x_X6_addStation_a Z l hst AD M (78 + ns) (by omega) (xs (i + 1)) (xs (i + 2)) (xs (i + 3)) (xs (i + 4)) (xs (i + 5)) (xs (i + 6)) (Or.inr (Or.inr (z2))))) ⟨rfl, rfl⟩ ⟨Nat.le_of_ble_eq_true rfl, Nat.le_of_ble_eq_true rfl⟩ (c_X8_addStation_a Z l AR N 16 (Nat.le_refl 16) ns nm hN (xs (i + 1)) (xs (i + 2)) (xs (i + 3)) (xs (i + 4)) (xs (i + 5)) (xs (i + 6)) (Or.inr (Or.inr (Or.inl z2)))) ⟨rfl, rfl⟩ ⟨Nat.le_of_ble_eq_true rfl, Nat.le_of_ble_eq_true rfl⟩ ⟨by omega, by omega⟩ mu_s (fun w hw => ⟨_, f, hw, fun h => absurd h (by decide), AD, M, ns, nm, H0, rfl, rfl, hr.z.z, by omega⟩) (fun H locs w g ls hC G hl => W.widen (by omega) (by omega) (kk H locs w g _ ls hC G hl))
  rcases hw (xs (i + 4)) 0 23 (by omega) (by omega) with z3 | ⟨z3, a3, b3, n3, e3, c3, d3⟩
  · skip
    exact law_addStation (mc := 1) (ms := 6) (mc2 := 0) (ms2 := 0) F hxK hxZ hKL hnC hX hbl hbA hL3 hi hl G (C := fun w => LI Z (AD 0) (Hm + 240) w (mu (mu N 1 0 0 0) 1 0 0 1)) rfl rfl rfl rfl rfl rfl (l_addStation_IA (gC_root (by omega)) _ _ _ _ _ _ ⟨rfl, rfl⟩ (x_X6_addStation_b Z l hst AD M (78 + ns) (by omega) (xs (i + 1)) (xs (i + 2)) (xs (i + 3)) (xs (i + 4)) (xs (i + 5)) (xs (i + 6)) z0 z1 z2 (Or.inl z3))) ⟨rfl, rfl⟩ ⟨Nat.le_of_ble_eq_true rfl, Nat.le_of_ble_eq_true rfl⟩ (c_X8_addStation_a Z l AR N 16 (Nat.le_refl 16) ns nm hN (xs (i + 1)) (xs (i + 2)) (xs (i + 3)) (xs (i + 4)) (xs (i + 5)) (xs (i + 6)) (Or.inr (Or.inr (Or.inr (Or.inl z3))))) ⟨rfl, rfl⟩ ⟨Nat.le_of_ble_eq_true rfl, Nat.le_of_ble_eq_true rfl⟩ ⟨by omega, by omega⟩ mu_s (fun w hw => ⟨_, f, hw, fun h => absurd h (by decide), AD, M, ns, nm, H0, rfl, rfl, hr.z.z, by omega⟩) (fun H locs w g ls hC G hl => W.widen (by omega) (by omega) (kk H locs w g _ ls hC G hl))
  rcases hw (xs (i + 5)) 1 24 (by omega) (by omega) with z4 | ⟨z4, a4, b4, n4, e4, c4, d4⟩
  · skip
    exact law_addStation (mc := 1) (ms := 6) (mc2 := 0) (ms2 := 0) F hxK hxZ hKL hnC hX hbl hbA hL3 hi hl G (C := fun w => LI Z (AD 0) (Hm + 240) w (mu (mu N 1 0 0 0) 1 0 0 1)) rfl rfl rfl rfl rfl rfl (l_addStation_IA (gC_root (by omega)) _ _ _ _ _ _ ⟨rfl, rfl⟩ (x_X6_addStation_b Z l hst AD M (78 + ns) (by omega) (xs (i + 1)) (xs (i + 2)) (xs (i + 3)) (xs (i + 4)) (xs (i + 5)) (xs (i + 6)) z0 z1 z2 (Or.inr (Or.inl z4)))) ⟨rfl, rfl⟩ ⟨Nat.le_of_ble_eq_true rfl, Nat.le_of_ble_eq_true rfl⟩ (c_X8_addStation_a Z l AR N 16 (Nat.le_refl 16) ns nm hN (xs (i + 1)) (xs (i + 2)) (xs (i + 3)) (xs (i + 4)) (xs (i + 5)) (xs (i + 6)) (Or.inr (Or.inr (Or.inr (Or.inr (Or.inl z4)))))) ⟨rfl, rfl⟩ ⟨Nat.le_of_ble_eq_true rfl, Nat.le_of_ble_eq_true rfl⟩ ⟨by omega, by omega⟩ mu_s (fun w hw => ⟨_, f, hw, fun h => absurd h (by decide), AD, M, ns, nm, H0, rfl, rfl, hr.z.z, by omega⟩) (fun H locs w g ls hC G hl => W.widen (by omega) (by omega) (kk H locs w g _ ls hC G hl))
  rcases hw (xs (i + 6)) 0 11 (by omega) (by omega) with z5 | ⟨z5, a5, b5, n5, e5, c5, d5⟩
  · skip
    exact law_addStation (mc := 1) (ms := 6) (mc2 := 0) (ms2 := 0) F hxK hxZ hKL hnC hX hbl hbA hL3 hi hl G (C := fun w => LI Z (AD 0) (Hm + 240) w (mu (mu N 1 0 0 0) 1 0 0 1)) rfl rfl rfl rfl rfl rfl (l_addStation_IA (gC_root (by omega)) _ _ _ _ _ _ ⟨rfl, rfl⟩ (x_X6_addStation_b Z l hst AD M (78 + ns) (by omega) (xs (i + 1)) (xs (i + 2)) (xs (i + 3)) (xs (i + 4)) (xs (i + 5)) (xs (i + 6)) z0 z1 z2 (Or.inr (Or.inr (z5))))) ⟨rfl, rfl⟩ ⟨Nat.le_of_ble_eq_true rfl, Nat.le_of_ble_eq_true rfl⟩ (c_X8_addStation_a Z l AR N 16 (Nat.le_refl 16) ns nm hN (xs (i + 1)) (xs (i + 2)) (xs (i + 3)) (xs (i + 4)) (xs (i + 5)) (xs (i + 6)) (Or.inr (Or.inr (Or.inr (Or.inr (Or.inr (z5))))))) ⟨rfl, rfl⟩ ⟨Nat.le_of_ble_eq_true rfl, Nat.le_of_ble_eq_true rfl⟩ ⟨by omega, by omega⟩ mu_s (fun w hw => ⟨_, f, hw, fun h => absurd h (by decide), AD, M, ns, nm, H0, rfl, rfl, hr.z.z, by omega⟩) (fun H locs w g ls hC G hl => W.widen (by omega) (by omega) (kk H locs w g _ ls hC G hl))
  by_cases hlt : ns < 12
  · skip
    exact law_addStation (mc := 1) (ms := 6) (mc2 := 1) (ms2 := 6) F hxK hxZ hKL hnC hX hbl hbA hL3 hi hl G (C := fun w => LI Z (AD 0) (Hm + 240) w (mu (adA (mu N 1 0 0 0) ns (own6 (xs (i + 1)) (xs (i + 2)) (xs (i + 3)) (xs (i + 4)) (xs (i + 5)) (xs (i + 6)))) 2 0 0 (nI (ns + 1)))) rfl rfl rfl rfl rfl rfl (l_addStation (gC_root (by omega)) _ _ _ _ _ _ ⟨rfl, rfl⟩ (c_X6_addStation Z l AD M ns hS.1 hlt hr.2.2.2.1 (xs (i + 1)) (xs (i + 2)) (xs (i + 3)) (xs (i + 4)) (xs (i + 5)) (xs (i + 6)) a0 b0 a1 b1 a2 b2 a3 b3 a4 b4 a5 b5)) ⟨rfl, rfl⟩ ⟨Nat.le_of_ble_eq_true rfl, Nat.le_of_ble_eq_true rfl⟩ (c_X8_addStation Z l AR N 16 (Nat.le_refl 16) ns nm hN hlt (xs (i + 1)) (xs (i + 2)) (xs (i + 3)) (xs (i + 4)) (xs (i + 5)) (xs (i + 6)) a0 b0 a1 b1 a2 b2 a3 b3 a4 b4 a5 b5) ⟨rfl, rfl⟩ ⟨Nat.le_of_ble_eq_true rfl, Nat.le_of_ble_eq_true rfl⟩ ⟨by omega, by omega⟩ (by
      rw [mu_o (by omega)]
      unfold adA
      rw [if_neg (by omega)]
      exact mu_s) (fun w hw => by
      obtain ⟨ws', g, hw', hg, rfl⟩ := hw
      obtain ⟨AD2, hAD, hw2⟩ := hw'
      exact ⟨_, g, rfl, fun _ => hg.trans (congrArg Int32.toInt64 (rfl)), AD2, _, ns + 1, nm, H0, hw2, hAD 0 (by omega), (by
        rw [e0, e1, e2, e3, e4, e5]
        exact rel_add hr hlt (by omega) (by omega) (by omega) (by omega) (by omega) (by omega) (by omega)), by omega⟩) (fun H locs w g ls hC G hl => W.widen (by omega) (by omega) (kk H locs w g _ ls hC G hl))
  · skip
    exact law_addStation (mc := 1) (ms := 6) (mc2 := 0) (ms2 := 0) F hxK hxZ hKL hnC hX hbl hbA hL3 hi hl G (C := fun w => LI Z (AD 0) (Hm + 240) w (mu (mu N 1 0 0 0) 1 0 0 2)) rfl rfl rfl rfl rfl rfl (l_addStation_IS (gC_root (by omega)) _ _ _ _ _ _ ⟨rfl, rfl⟩ (x_X6_addStation_s Z l hst AD M (78 + ns) (by omega) (xs (i + 1)) (xs (i + 2)) (xs (i + 3)) (xs (i + 4)) (xs (i + 5)) (xs (i + 6)) ns hS hlt z0 z1 z2 z3 z4 z5)) ⟨rfl, rfl⟩ ⟨Nat.le_of_ble_eq_true rfl, Nat.le_of_ble_eq_true rfl⟩ (c_X8_addStation_s Z l AR N 16 (Nat.le_refl 16) ns nm hN hlt (xs (i + 1)) (xs (i + 2)) (xs (i + 3)) (xs (i + 4)) (xs (i + 5)) (xs (i + 6)) a0 b0 a1 b1 a2 b2 a3 b3 a4 b4 a5 b5) ⟨rfl, rfl⟩ ⟨Nat.le_of_ble_eq_true rfl, Nat.le_of_ble_eq_true rfl⟩ ⟨by omega, by omega⟩ mu_s (fun w hw => ⟨_, f, hw, fun h => absurd h (by decide), AD, M, ns, nm, H0, rfl, rfl, hr.z.z, by omega⟩) (fun H locs w g ls hC G hl => W.widen (by omega) (by omega) (kk H locs w g _ ls hC G hl))
set_option maxRecDepth 100000 in
set_option maxHeartbeats 4000000 in
theorem do_join (S : lawS p l s m meth c Z cL A b L xs) (hi : i + 6 < L) (hI : LI Z ax Hm ws1 N) (hHm : Hm ≤ 200000) (hl : lv_has ls 9 [(0, .ref b), (1, .ref ax), (2, .ref (AR 0)), (3, .ref o), (4, .int (nI i))]) (G : gG Z A s ((ws1 ++ [(o, outE cL f)]) ++ wR Z AR N 16) H locs) (hroom : cells + 2 ≤ room_1.cells ∧ slots + 12 ≤ room_1.slots) (kk : LK p l e s m below meth c Q Z cL A b i ax o AR (Hm + 240) (cells + 2) (slots + 12)) : W p l e room_1 s m #[Value.ref b] below meth c H locs cells slots Q (F0 m 258 ls []) := by
  obtain ⟨F, hxK, hxZ, hKL, hnC, hX, hbl, hbA, hL3, hst⟩ := S
  obtain ⟨AD, M, ns, nm, H0, rfl, rfl, hr, hH⟩ := hI
  have hS := hr.2.1
  have hM := hr.2.2.1
  have hZ := hr.okZ
  have hN := hr.okN
  have hXR := hr.okX
  have hns := hS.2.1
  have hnm := hM.2
  by_cases h1 : xs (i + 1) < 20 ∨ 200 < xs (i + 1)
  · skip
    exact law_join (mc := 1) (ms := 6) (mc2 := 0) (ms2 := 0) F hxK hxZ hKL hnC hX hbl hbA hL3 hi hl G (C := fun w => LI Z (AD 0) (Hm + 240) w (mu (mu N 1 0 0 0) 1 0 0 1)) rfl rfl (l_join_IA (gC_root (by omega)) _ _ ⟨rfl, rfl⟩ (x_X6_join_a Z l hst AD M (78 + ns) (by omega) _ _ (Or.inl h1))) ⟨rfl, rfl⟩ ⟨Nat.le_of_ble_eq_true rfl, Nat.le_of_ble_eq_true rfl⟩ (c_X8_join_a Z l AR N 16 (Nat.le_refl 16) ns nm hN _ _ (Or.inl (wth_0 h1))) ⟨rfl, rfl⟩ ⟨Nat.le_of_ble_eq_true rfl, Nat.le_of_ble_eq_true rfl⟩ ⟨by omega, by omega⟩ mu_s (fun w hw => ⟨_, f, hw, fun h => absurd h (by decide), AD, M, ns, nm, H0, rfl, rfl, hr.z.z, by omega⟩) (fun H locs w g ls hC G hl => W.widen (by omega) (by omega) (kk H locs w g _ ls hC G hl))
  by_cases h2 : xs (i + 2) < 1 ∨ 60 < xs (i + 2)
  · skip
    exact law_join (mc := 1) (ms := 6) (mc2 := 0) (ms2 := 0) F hxK hxZ hKL hnC hX hbl hbA hL3 hi hl G (C := fun w => LI Z (AD 0) (Hm + 240) w (mu (mu N 1 0 0 0) 1 0 0 1)) rfl rfl (l_join_IA (gC_root (by omega)) _ _ ⟨rfl, rfl⟩ (x_X6_join_a Z l hst AD M (78 + ns) (by omega) _ _ (Or.inr h2))) ⟨rfl, rfl⟩ ⟨Nat.le_of_ble_eq_true rfl, Nat.le_of_ble_eq_true rfl⟩ (c_X8_join_a Z l AR N 16 (Nat.le_refl 16) ns nm hN _ _ (Or.inr (wth_0 h2))) ⟨rfl, rfl⟩ ⟨Nat.le_of_ble_eq_true rfl, Nat.le_of_ble_eq_true rfl⟩ ⟨by omega, by omega⟩ mu_s (fun w hw => ⟨_, f, hw, fun h => absurd h (by decide), AD, M, ns, nm, H0, rfl, rfl, hr.z.z, by omega⟩) (fun H locs w g ls hC G hl => W.widen (by omega) (by omega) (kk H locs w g _ ls hC G hl))
  have g1 := not_or.mp h1
  have g2 := not_or.mp h2
  obtain ⟨t, et, t1, t2⟩ := in_nat (lo := 20) (hi := 200) (by omega) (by omega) g1.1 g1.2
  obtain ⟨a, ea, a1, a2⟩ := in_nat (lo := 1) (hi := 60) (by omega) (by omega) g2.1 g2.2
  by_cases hlt : nm < 8
  · skip
    exact law_join (mc := 0) (ms := 0) (mc2 := 0) (ms2 := 0) F hxK hxZ hKL hnC hX hbl hbA hL3 hi hl G (C := fun w => LI Z (AD 0) (Hm + 240) w (joR N nm (nI t) (nI a))) et ea (l_join (gC_root (by omega)) _ _ ⟨rfl, rfl⟩ (c_X6_join Z l AD M (78 + ns) (by omega) nm hM hlt (nI t) (nI a) (et ▸ g1.1) (et ▸ g1.2) (ea ▸ g2.1) (ea ▸ g2.2)).toE) ⟨rfl, rfl⟩ ⟨Nat.le_of_ble_eq_true rfl, Nat.le_of_ble_eq_true rfl⟩ (c_X8_join Z l AR N 16 (Nat.le_refl 16) ns nm hN hlt (nI t) (nI a) (et ▸ g1.1) (et ▸ g1.2) (ea ▸ g2.1) (ea ▸ g2.2)) ⟨rfl, rfl⟩ ⟨Nat.le_of_ble_eq_true rfl, Nat.le_of_ble_eq_true rfl⟩ ⟨by omega, by omega⟩ (by
      unfold joR
      rw [mu_o (by omega), mu_o (by omega), mu_o (by omega), mu_o (by omega), mu_o (by omega)]
      exact mu_s) (fun w hw => by
      obtain ⟨ws', g, hw', hg, rfl⟩ := hw
      exact ⟨_, g, rfl, fun _ => hg.trans (congrArg Int32.toInt64 (rfl)), AD, _, ns, nm + 1, H0, hw', rfl, rel_join hr hlt t1 t2 a1 a2, by omega⟩) (fun H locs w g ls hC G hl => W.widen (by omega) (by omega) (kk H locs w g _ ls hC G hl))
  · skip
    exact law_join (mc := 1) (ms := 6) (mc2 := 0) (ms2 := 0) F hxK hxZ hKL hnC hX hbl hbA hL3 hi hl G (C := fun w => LI Z (AD 0) (Hm + 240) w (mu (mu N 1 0 0 0) 1 0 0 2)) rfl rfl (l_join_IS (gC_root (by omega)) _ _ ⟨rfl, rfl⟩ (x_X6_join_s Z l hst AD M (78 + ns) (by omega) nm hM hlt _ _ g1.1 g1.2 g2.1 g2.2)) ⟨rfl, rfl⟩ ⟨Nat.le_of_ble_eq_true rfl, Nat.le_of_ble_eq_true rfl⟩ (c_X8_join_s Z l AR N 16 (Nat.le_refl 16) ns nm hN hlt _ _ g1.1 g1.2 g2.1 g2.2) ⟨rfl, rfl⟩ ⟨Nat.le_of_ble_eq_true rfl, Nat.le_of_ble_eq_true rfl⟩ ⟨by omega, by omega⟩ mu_s (fun w hw => ⟨_, f, hw, fun h => absurd h (by decide), AD, M, ns, nm, H0, rfl, rfl, hr.z.z, by omega⟩) (fun H locs w g ls hC G hl => W.widen (by omega) (by omega) (kk H locs w g _ ls hC G hl))
set_option maxRecDepth 100000 in
set_option maxHeartbeats 4000000 in
theorem do_turn (S : lawS p l s m meth c Z cL A b L xs) (hi : i + 6 < L) (hI : LI Z ax Hm ws1 N) (hHm : Hm ≤ 200000) (hl : lv_has ls 9 [(0, .ref b), (1, .ref ax), (2, .ref (AR 0)), (3, .ref o), (4, .int (nI i))]) (G : gG Z A s ((ws1 ++ [(o, outE cL f)]) ++ wR Z AR N 16) H locs) (hroom : cells + 2 ≤ room_1.cells ∧ slots + 12 ≤ room_1.slots) (kk : LK p l e s m below meth c Q Z cL A b i ax o AR (Hm + 240) (cells + 2) (slots + 12)) : W p l e room_1 s m #[Value.ref b] below meth c H locs cells slots Q (F0 m 326 ls []) := by
  obtain ⟨F, hxK, hxZ, hKL, hnC, hX, hbl, hbA, hL3, hst⟩ := S
  obtain ⟨AD, M, ns, nm, H0, rfl, rfl, hr, hH⟩ := hI
  have hS := hr.2.1
  have hM := hr.2.2.1
  have hZ := hr.okZ
  have hN := hr.okN
  have hXR := hr.okX
  have hns := hS.2.1
  have hnm := hM.2
  rcases ix (n := nm) (by omega) (xs (i + 1)) with h1 | ⟨j, hj, ej⟩
  · skip
    exact law_turn (mc := 1) (ms := 6) (mc2 := 0) (ms2 := 0) F hxK hxZ hKL hnC hX hbl hbA hL3 hi hl G (C := fun w => LI Z (AD 0) (Hm + 240) w (mu (mu N 1 0 0 0) 1 0 0 1)) rfl rfl (l_turn_IO (gC_root (by omega)) _ _ ⟨rfl, rfl⟩ (x_X6_turn_m Z l hst AD M (78 + ns) (by omega) nm hM _ _ h1)) ⟨rfl, rfl⟩ ⟨Nat.le_of_ble_eq_true rfl, Nat.le_of_ble_eq_true rfl⟩ (c_X8_turn_m Z l AR N 16 (Nat.le_refl 16) ns nm hN _ _ h1) ⟨rfl, rfl⟩ ⟨Nat.le_of_ble_eq_true rfl, Nat.le_of_ble_eq_true rfl⟩ ⟨by omega, by omega⟩ mu_s (fun w hw => ⟨_, f, hw, fun h => absurd h (by decide), AD, M, ns, nm, H0, rfl, rfl, hr.z.z, by omega⟩) (fun H locs w g ls hC G hl => W.widen (by omega) (by omega) (kk H locs w g _ ls hC G hl))
  by_cases h2 : xs (i + 2) < 0 ∨ 100 < xs (i + 2)
  · skip
    exact law_turn (mc := 1) (ms := 6) (mc2 := 0) (ms2 := 0) F hxK hxZ hKL hnC hX hbl hbA hL3 hi hl G (C := fun w => LI Z (AD 0) (Hm + 240) w (mu (mu N 1 0 0 0) 1 0 0 2)) ej rfl (l_turn_IA (gC_root (by omega)) _ _ ⟨rfl, rfl⟩ (x_X6_turn_d Z l hst AD M (78 + ns) (by omega) nm j hM hj _ h2)) ⟨rfl, rfl⟩ ⟨Nat.le_of_ble_eq_true rfl, Nat.le_of_ble_eq_true rfl⟩ (c_X8_turn_d Z l AR N 16 (Nat.le_refl 16) ns nm j hN hj _ h2) ⟨rfl, rfl⟩ ⟨Nat.le_of_ble_eq_true rfl, Nat.le_of_ble_eq_true rfl⟩ ⟨by omega, by omega⟩ mu_s (fun w hw => ⟨_, f, hw, fun h => absurd h (by decide), AD, M, ns, nm, H0, rfl, rfl, hr.z.z, by omega⟩) (fun H locs w g ls hC G hl => W.widen (by omega) (by omega) (kk H locs w g _ ls hC G hl))
  have g2 := not_or.mp h2
  obtain ⟨d, ed, d1, d2⟩ := in_nat (lo := 0) (hi := 100) (by omega) (by omega) g2.1 g2.2
  have hrel := rel_turn hr hj d2
  exact law_turn (mc := 0) (ms := 0) (mc2 := 0) (ms2 := 0) F hxK hxZ hKL hnC hX hbl hbA hL3 hi hl G (C := fun w => LI Z (AD 0) (Hm + 240) w (mu (mu N 1 0 0 0) 5 0 j (nI d))) ej ed (l_turn (gC_root (by omega)) _ _ ⟨rfl, rfl⟩ (c_X6_turn Z l AD M (78 + ns) (by omega) nm j hM hj (nI d) (ed ▸ g2.1) (ed ▸ g2.2)).toE) ⟨rfl, rfl⟩ ⟨Nat.le_of_ble_eq_true rfl, Nat.le_of_ble_eq_true rfl⟩ (c_X8_turn Z l AR N 16 (Nat.le_refl 16) ns nm j hN hj (nI d) (ed ▸ g2.1) (ed ▸ g2.2)) ⟨rfl, rfl⟩ ⟨Nat.le_of_ble_eq_true rfl, Nat.le_of_ble_eq_true rfl⟩ ⟨by omega, by omega⟩ (by
    rw [mu_o (by omega)]
    exact mu_s) (fun w hw => by
    obtain ⟨ws', g, hw', hg, rfl⟩ := hw
    exact ⟨_, g, rfl, fun _ => hg.trans (congrArg Int32.toInt64 (hrel.1)), AD, _, ns, nm, H0, hw', rfl, hrel.2, by omega⟩) (fun H locs w g ls hC G hl => W.widen (by omega) (by omega) (kk H locs w g _ ls hC G hl))
set_option maxRecDepth 100000 in
set_option maxHeartbeats 4000000 in
theorem do_wind (S : lawS p l s m meth c Z cL A b L xs) (hi : i + 6 < L) (hI : LI Z ax Hm ws1 N) (hHm : Hm ≤ 200000) (hl : lv_has ls 9 [(0, .ref b), (1, .ref ax), (2, .ref (AR 0)), (3, .ref o), (4, .int (nI i))]) (G : gG Z A s ((ws1 ++ [(o, outE cL f)]) ++ wR Z AR N 16) H locs) (hroom : cells + 2 ≤ room_1.cells ∧ slots + 12 ≤ room_1.slots) (kk : LK p l e s m below meth c Q Z cL A b i ax o AR (Hm + 240) (cells + 2) (slots + 12)) : W p l e room_1 s m #[Value.ref b] below meth c H locs cells slots Q (F0 m 394 ls []) := by
  obtain ⟨F, hxK, hxZ, hKL, hnC, hX, hbl, hbA, hL3, hst⟩ := S
  obtain ⟨AD, M, ns, nm, H0, rfl, rfl, hr, hH⟩ := hI
  have hS := hr.2.1
  have hM := hr.2.2.1
  have hZ := hr.okZ
  have hN := hr.okN
  have hXR := hr.okX
  have hns := hS.2.1
  have hnm := hM.2
  rcases ix (n := nm) (by omega) (xs (i + 1)) with h1 | ⟨j, hj, ej⟩
  · skip
    exact law_wind (mc := 1) (ms := 6) (mc2 := 0) (ms2 := 0) F hxK hxZ hKL hnC hX hbl hbA hL3 hi hl G (C := fun w => LI Z (AD 0) (Hm + 240) w (mu (mu N 1 0 0 0) 1 0 0 1)) rfl rfl (l_wind_IO (gC_root (by omega)) _ _ ⟨rfl, rfl⟩ (x_X6_wind_m Z l hst AD M (78 + ns) (by omega) nm hM _ _ h1)) ⟨rfl, rfl⟩ ⟨Nat.le_of_ble_eq_true rfl, Nat.le_of_ble_eq_true rfl⟩ (c_X8_wind_m Z l AR N 16 (Nat.le_refl 16) ns nm hN _ _ h1) ⟨rfl, rfl⟩ ⟨Nat.le_of_ble_eq_true rfl, Nat.le_of_ble_eq_true rfl⟩ ⟨by omega, by omega⟩ mu_s (fun w hw => ⟨_, f, hw, fun h => absurd h (by decide), AD, M, ns, nm, H0, rfl, rfl, hr.z.z, by omega⟩) (fun H locs w g ls hC G hl => W.widen (by omega) (by omega) (kk H locs w g _ ls hC G hl))
  by_cases h2 : xs (i + 2) < 20 ∨ 200 < xs (i + 2)
  · skip
    exact law_wind (mc := 1) (ms := 6) (mc2 := 0) (ms2 := 0) F hxK hxZ hKL hnC hX hbl hbA hL3 hi hl G (C := fun w => LI Z (AD 0) (Hm + 240) w (mu (mu N 1 0 0 0) 1 0 0 2)) ej rfl (l_wind_IA (gC_root (by omega)) _ _ ⟨rfl, rfl⟩ (x_X6_wind_d Z l hst AD M (78 + ns) (by omega) nm j hM hj _ h2)) ⟨rfl, rfl⟩ ⟨Nat.le_of_ble_eq_true rfl, Nat.le_of_ble_eq_true rfl⟩ (c_X8_wind_d Z l AR N 16 (Nat.le_refl 16) ns nm j hN hj _ h2) ⟨rfl, rfl⟩ ⟨Nat.le_of_ble_eq_true rfl, Nat.le_of_ble_eq_true rfl⟩ ⟨by omega, by omega⟩ mu_s (fun w hw => ⟨_, f, hw, fun h => absurd h (by decide), AD, M, ns, nm, H0, rfl, rfl, hr.z.z, by omega⟩) (fun H locs w g ls hC G hl => W.widen (by omega) (by omega) (kk H locs w g _ ls hC G hl))
  have g2 := not_or.mp h2
  obtain ⟨d, ed, d1, d2⟩ := in_nat (lo := 20) (hi := 200) (by omega) (by omega) g2.1 g2.2
  have hrel := rel_wind hr hj d1 d2
  exact law_wind (mc := 0) (ms := 0) (mc2 := 0) (ms2 := 0) F hxK hxZ hKL hnC hX hbl hbA hL3 hi hl G (C := fun w => LI Z (AD 0) (Hm + 240) w (mu (mu N 1 0 0 0) 4 0 j (nI d))) ej ed (l_wind (gC_root (by omega)) _ _ ⟨rfl, rfl⟩ (c_X6_wind Z l AD M (78 + ns) (by omega) nm j hM hj (nI d) (ed ▸ g2.1) (ed ▸ g2.2)).toE) ⟨rfl, rfl⟩ ⟨Nat.le_of_ble_eq_true rfl, Nat.le_of_ble_eq_true rfl⟩ (c_X8_wind Z l AR N 16 (Nat.le_refl 16) ns nm j hN hj (nI d) (ed ▸ g2.1) (ed ▸ g2.2)) ⟨rfl, rfl⟩ ⟨Nat.le_of_ble_eq_true rfl, Nat.le_of_ble_eq_true rfl⟩ ⟨by omega, by omega⟩ (by
    rw [mu_o (by omega)]
    exact mu_s) (fun w hw => by
    obtain ⟨ws', g, hw', hg, rfl⟩ := hw
    exact ⟨_, g, rfl, fun _ => hg.trans (congrArg Int32.toInt64 (hrel.1)), AD, _, ns, nm, H0, hw', rfl, hrel.2, by omega⟩) (fun H locs w g ls hC G hl => W.widen (by omega) (by omega) (kk H locs w g _ ls hC G hl))
set_option maxRecDepth 100000 in
set_option maxHeartbeats 4000000 in
theorem do_listen (S : lawS p l s m meth c Z cL A b L xs) (hi : i + 6 < L) (hI : LI Z ax Hm ws1 N) (hHm : Hm ≤ 200000) (hl : lv_has ls 9 [(0, .ref b), (1, .ref ax), (2, .ref (AR 0)), (3, .ref o), (4, .int (nI i))]) (G : gG Z A s ((ws1 ++ [(o, outE cL f)]) ++ wR Z AR N 16) H locs) (hroom : cells + 2 ≤ room_1.cells ∧ slots + 12 ≤ room_1.slots) (kk : LK p l e s m below meth c Q Z cL A b i ax o AR (Hm + 240) (cells + 2) (slots + 12)) : W p l e room_1 s m #[Value.ref b] below meth c H locs cells slots Q (F0 m 462 ls []) := by
  obtain ⟨F, hxK, hxZ, hKL, hnC, hX, hbl, hbA, hL3, hst⟩ := S
  obtain ⟨AD, M, ns, nm, H0, rfl, rfl, hr, hH⟩ := hI
  have hS := hr.2.1
  have hM := hr.2.2.1
  have hZ := hr.okZ
  have hN := hr.okN
  have hXR := hr.okX
  have hns := hS.2.1
  have hnm := hM.2
  rcases ix (n := nm) (by omega) (xs (i + 1)) with h1 | ⟨j, hj, ej⟩
  · skip
    exact law_listen (mc := 1) (ms := 6) (mc2 := 0) (ms2 := 0) F hxK hxZ hKL hnC hX hbl hbA hL3 hi hl G (C := fun w => LI Z (AD 0) (Hm + 240) w (mu (mu N 1 0 0 0) 1 0 0 1)) rfl rfl (l_listen_IO (gC_root (by omega)) _ _ ⟨rfl, rfl⟩ (x_X6_listen_m Z l hst AD M (78 + ns) (by omega) nm hM _ _ h1)) ⟨rfl, rfl⟩ ⟨Nat.le_of_ble_eq_true rfl, Nat.le_of_ble_eq_true rfl⟩ (c_X8_listen_m Z l AR N 16 (Nat.le_refl 16) ns nm hN _ _ h1) ⟨rfl, rfl⟩ ⟨Nat.le_of_ble_eq_true rfl, Nat.le_of_ble_eq_true rfl⟩ ⟨by omega, by omega⟩ mu_s (fun w hw => ⟨_, f, hw, fun h => absurd h (by decide), AD, M, ns, nm, H0, rfl, rfl, hr.z.z, by omega⟩) (fun H locs w g ls hC G hl => W.widen (by omega) (by omega) (kk H locs w g _ ls hC G hl))
  have hb2 : (if xs (i + 2) = 0 then (0 : Int32) else 1) = 0 ∨ (if xs (i + 2) = 0 then (0 : Int32) else 1) = 1 := by
    by_cases z : xs (i + 2) = 0
    · rw [if_pos z]; exact Or.inl rfl
    · rw [if_neg z]; exact Or.inr rfl
  obtain ⟨v, ev⟩ : ∃ v, (if xs (i + 2) = 0 then (0 : Int32) else 1) = v := ⟨_, rfl⟩
  rw [ev] at hb2
  have hrel := rel_listen hr hj hb2
  exact law_listen (mc := 0) (ms := 0) (mc2 := 0) (ms2 := 0) F hxK hxZ hKL hnC hX hbl hbA hL3 hi hl G (C := fun w => LI Z (AD 0) (Hm + 240) w (mu (mu N 1 0 0 0) 7 0 j v)) ej ev (l_listen (gC_root (by omega)) _ _ ⟨rfl, rfl⟩ (c_X6_listen Z l AD M (78 + ns) (by omega) nm j hM hj v hb2 (hrel.1 ▸ hrel.2.1)).toE) ⟨rfl, rfl⟩ ⟨Nat.le_of_ble_eq_true rfl, Nat.le_of_ble_eq_true rfl⟩ (c_X8_listen Z l AR N 16 (Nat.le_refl 16) ns nm j hN hj v hb2 hrel.2.1) ⟨rfl, rfl⟩ ⟨Nat.le_of_ble_eq_true rfl, Nat.le_of_ble_eq_true rfl⟩ ⟨by omega, by omega⟩ (by
    rw [mu_o (by omega)]
    exact mu_s) (fun w hw => by
    obtain ⟨ws', g, hw', hg, rfl⟩ := hw
    exact ⟨_, g, rfl, fun _ => (hg.trans (by rw [hrel.1])), AD, _, ns, nm, H0, hw', rfl, hrel.2.2, by omega⟩) (fun H locs w g ls hC G hl => W.widen (by omega) (by omega) (kk H locs w g _ ls hC G hl))
set_option maxRecDepth 100000 in
set_option maxHeartbeats 4000000 in
theorem do_renew (S : lawS p l s m meth c Z cL A b L xs) (hi : i + 6 < L) (hI : LI Z ax Hm ws1 N) (hHm : Hm ≤ 200000) (hl : lv_has ls 9 [(0, .ref b), (1, .ref ax), (2, .ref (AR 0)), (3, .ref o), (4, .int (nI i))]) (G : gG Z A s ((ws1 ++ [(o, outE cL f)]) ++ wR Z AR N 16) H locs) (hroom : cells + 2 ≤ room_1.cells ∧ slots + 12 ≤ room_1.slots) (kk : LK p l e s m below meth c Q Z cL A b i ax o AR (Hm + 240) (cells + 2) (slots + 12)) : W p l e room_1 s m #[Value.ref b] below meth c H locs cells slots Q (F0 m 553 ls []) := by
  obtain ⟨F, hxK, hxZ, hKL, hnC, hX, hbl, hbA, hL3, hst⟩ := S
  obtain ⟨AD, M, ns, nm, H0, rfl, rfl, hr, hH⟩ := hI
  have hS := hr.2.1
  have hM := hr.2.2.1
  have hZ := hr.okZ
  have hN := hr.okN
  have hXR := hr.okX
  have hns := hS.2.1
  have hnm := hM.2
  rcases ix (n := nm) (by omega) (xs (i + 1)) with h1 | ⟨j, hj, ej⟩
  · skip
    exact law_renew (mc := 1) (ms := 6) (mc2 := 0) (ms2 := 0) F hxK hxZ hKL hnC hX hbl hbA hL3 hi hl G (C := fun w => LI Z (AD 0) (Hm + 240) w (mu (mu N 1 0 0 0) 1 0 0 1)) rfl (l_renew_IO (gC_root (by omega)) _ ⟨rfl, rfl⟩ (x_X6_renew_m Z l hst AD M (78 + ns) (by omega) nm hM _ h1)) ⟨rfl, rfl⟩ ⟨Nat.le_of_ble_eq_true rfl, Nat.le_of_ble_eq_true rfl⟩ (c_X8_renew_m Z l AR N 16 (Nat.le_refl 16) ns nm hN _ h1) ⟨rfl, rfl⟩ ⟨Nat.le_of_ble_eq_true rfl, Nat.le_of_ble_eq_true rfl⟩ ⟨by omega, by omega⟩ mu_s (fun w hw => ⟨_, f, hw, fun h => absurd h (by decide), AD, M, ns, nm, H0, rfl, rfl, hr.z.z, by omega⟩) (fun H locs w g ls hC G hl => W.widen (by omega) (by omega) (kk H locs w g _ ls hC G hl))
  have hrel := rel_renew hr hj
  exact law_renew (mc := 0) (ms := 0) (mc2 := 0) (ms2 := 0) F hxK hxZ hKL hnC hX hbl hbA hL3 hi hl G (C := fun w => LI Z (AD 0) (Hm + 240) w (mu (mu N 1 0 0 0) 12 0 j 9)) ej (l_renew (gC_root (by omega)) _ ⟨rfl, rfl⟩ (c_X6_renew Z l AD M (78 + ns) (by omega) nm j hM hj).toE) ⟨rfl, rfl⟩ ⟨Nat.le_of_ble_eq_true rfl, Nat.le_of_ble_eq_true rfl⟩ (c_X8_renew Z l AR N 16 (Nat.le_refl 16) ns nm j hN hj) ⟨rfl, rfl⟩ ⟨Nat.le_of_ble_eq_true rfl, Nat.le_of_ble_eq_true rfl⟩ ⟨by omega, by omega⟩ (by
    rw [mu_o (by omega)]
    exact mu_s) (fun w hw => by
    obtain ⟨ws', g, hw', hg, rfl⟩ := hw
    exact ⟨_, g, rfl, fun _ => hg.trans (congrArg Int32.toInt64 (hrel.1)), AD, _, ns, nm, H0, hw', rfl, hrel.2, by omega⟩) (fun H locs w g ls hC G hl => W.widen (by omega) (by omega) (kk H locs w g _ ls hC G hl))
set_option maxRecDepth 100000 in
set_option maxHeartbeats 4000000 in
theorem do_station (S : lawS p l s m meth c Z cL A b L xs) (hi : i + 6 < L) (hI : LI Z ax Hm ws1 N) (hHm : Hm ≤ 200000) (hl : lv_has ls 9 [(0, .ref b), (1, .ref ax), (2, .ref (AR 0)), (3, .ref o), (4, .int (nI i))]) (G : gG Z A s ((ws1 ++ [(o, outE cL f)]) ++ wR Z AR N 16) H locs) (hroom : cells + 2 ≤ room_1.cells ∧ slots + 12 ≤ room_1.slots) (kk : LK p l e s m below meth c Q Z cL A b i ax o AR (Hm + 240) (cells + 2) (slots + 12)) : W p l e room_1 s m #[Value.ref b] below meth c H locs cells slots Q (F0 m 609 ls []) := by
  obtain ⟨F, hxK, hxZ, hKL, hnC, hX, hbl, hbA, hL3, hst⟩ := S
  obtain ⟨AD, M, ns, nm, H0, rfl, rfl, hr, hH⟩ := hI
  have hS := hr.2.1
  have hM := hr.2.2.1
  have hZ := hr.okZ
  have hN := hr.okN
  have hXR := hr.okX
  have hns := hS.2.1
  have hnm := hM.2
  rcases ix (n := ns) (by omega) (xs (i + 1)) with h1 | ⟨k, hk, ek⟩
  · skip
    exact law_station (mc := 1) (ms := 6) (mc2 := 0) (ms2 := 0) F hxK hxZ hKL hnC hX hbl hbA hL3 hi hl G (C := fun w => LI Z (AD 0) (Hm + 240) w (mu (mu N 1 0 0 0) 1 0 0 1)) rfl rfl (l_station_IO (gC_root (by omega)) _ _ ⟨rfl, rfl⟩ (x_X6_station_s Z l hst AD M (78 + ns) (by omega) ns hS _ _ h1)) ⟨rfl, rfl⟩ ⟨Nat.le_of_ble_eq_true rfl, Nat.le_of_ble_eq_true rfl⟩ (c_X8_station_s Z l AR N 16 (Nat.le_refl 16) ns nm hN _ _ h1) ⟨rfl, rfl⟩ ⟨Nat.le_of_ble_eq_true rfl, Nat.le_of_ble_eq_true rfl⟩ ⟨by omega, by omega⟩ mu_s (fun w hw => ⟨_, f, hw, fun h => absurd h (by decide), AD, M, ns, nm, H0, rfl, rfl, hr.z.z, by omega⟩) (fun H locs w g ls hC G hl => W.widen (by omega) (by omega) (kk H locs w g _ ls hC G hl))
  rcases ix (n := 6) (by omega) (xs (i + 2)) with h2 | ⟨v, hv, ev⟩
  · skip
    exact law_station (mc := 1) (ms := 6) (mc2 := 0) (ms2 := 0) F hxK hxZ hKL hnC hX hbl hbA hL3 hi hl G (C := fun w => LI Z (AD 0) (Hm + 240) w (mu (mu N 1 0 0 0) 1 0 0 1)) ek rfl (l_station_IO (gC_root (by omega)) _ _ ⟨rfl, rfl⟩ (x_X6_station_w Z l hst AD M (78 + ns) (by omega) ns k hS hk _ (ix_n h2))) ⟨rfl, rfl⟩ ⟨Nat.le_of_ble_eq_true rfl, Nat.le_of_ble_eq_true rfl⟩ (c_X8_station_w Z l AR N 16 (Nat.le_refl 16) ns nm k hN hk _ (ix_w (n := 5) (by omega) h2)) ⟨rfl, rfl⟩ ⟨Nat.le_of_ble_eq_true rfl, Nat.le_of_ble_eq_true rfl⟩ ⟨by omega, by omega⟩ mu_s (fun w hw => ⟨_, f, hw, fun h => absurd h (by decide), AD, M, ns, nm, H0, rfl, rfl, hr.z.z, by omega⟩) (fun H locs w g ls hC G hl => W.widen (by omega) (by omega) (kk H locs w g _ ls hC G hl))
  exact law_station (mc := 0) (ms := 0) (mc2 := 0) (ms2 := 0) F hxK hxZ hKL hnC hX hbl hbA hL3 hi hl G (C := fun w => LI Z (AD 0) (Hm + 240) w (mu N 1 0 0 0)) ek ev (l_station (gC_root (by omega)) _ _ ⟨rfl, rfl⟩ (c_X6_station Z l AD M (78 + ns) (by omega) ns nm k v hS hM hZ hk hv).toE) ⟨rfl, rfl⟩ ⟨Nat.le_of_ble_eq_true rfl, Nat.le_of_ble_eq_true rfl⟩ (c_X8_station Z l AR N 16 (Nat.le_refl 16) ns nm k v hN hXR hk hv) ⟨rfl, rfl⟩ ⟨Nat.le_of_ble_eq_true rfl, Nat.le_of_ble_eq_true rfl⟩ ⟨by omega, by omega⟩ (mu_s) (fun w hw => by
    obtain ⟨ws', g, hw', hg, rfl⟩ := hw
    exact ⟨_, g, rfl, fun _ => hg.trans (congrArg Int32.toInt64 (tes_eq hr.z (by omega) hk hv)), AD, _, ns, nm, H0, hw', rfl, hr.z, by omega⟩) (fun H locs w g ls hC G hl => W.widen (by omega) (by omega) (kk H locs w g _ ls hC G hl))
set_option maxRecDepth 100000 in
set_option maxHeartbeats 4000000 in
theorem do_member (S : lawS p l s m meth c Z cL A b L xs) (hi : i + 6 < L) (hI : LI Z ax Hm ws1 N) (hHm : Hm ≤ 200000) (hl : lv_has ls 9 [(0, .ref b), (1, .ref ax), (2, .ref (AR 0)), (3, .ref o), (4, .int (nI i))]) (G : gG Z A s ((ws1 ++ [(o, outE cL f)]) ++ wR Z AR N 16) H locs) (hroom : cells + 2 ≤ room_1.cells ∧ slots + 12 ≤ room_1.slots) (kk : LK p l e s m below meth c Q Z cL A b i ax o AR (Hm + 240) (cells + 2) (slots + 12)) : W p l e room_1 s m #[Value.ref b] below meth c H locs cells slots Q (F0 m 677 ls []) := by
  obtain ⟨F, hxK, hxZ, hKL, hnC, hX, hbl, hbA, hL3, hst⟩ := S
  obtain ⟨AD, M, ns, nm, H0, rfl, rfl, hr, hH⟩ := hI
  have hS := hr.2.1
  have hM := hr.2.2.1
  have hZ := hr.okZ
  have hN := hr.okN
  have hXR := hr.okX
  have hns := hS.2.1
  have hnm := hM.2
  rcases ix (n := nm) (by omega) (xs (i + 1)) with h1 | ⟨j, hj, ej⟩
  · skip
    exact law_member (mc := 1) (ms := 6) (mc2 := 0) (ms2 := 0) F hxK hxZ hKL hnC hX hbl hbA hL3 hi hl G (C := fun w => LI Z (AD 0) (Hm + 240) w (mu (mu N 1 0 0 0) 1 0 0 1)) rfl rfl (l_member_IO (gC_root (by omega)) _ _ ⟨rfl, rfl⟩ (x_X6_member_m Z l hst AD M (78 + ns) (by omega) nm hM _ _ h1)) ⟨rfl, rfl⟩ ⟨Nat.le_of_ble_eq_true rfl, Nat.le_of_ble_eq_true rfl⟩ (c_X8_member_m Z l AR N 16 (Nat.le_refl 16) ns nm hN _ _ h1) ⟨rfl, rfl⟩ ⟨Nat.le_of_ble_eq_true rfl, Nat.le_of_ble_eq_true rfl⟩ ⟨by omega, by omega⟩ mu_s (fun w hw => ⟨_, f, hw, fun h => absurd h (by decide), AD, M, ns, nm, H0, rfl, rfl, hr.z.z, by omega⟩) (fun H locs w g ls hC G hl => W.widen (by omega) (by omega) (kk H locs w g _ ls hC G hl))
  rcases ix (n := 10) (by omega) (xs (i + 2)) with h2 | ⟨v, hv, ev⟩
  · skip
    exact law_member (mc := 1) (ms := 6) (mc2 := 0) (ms2 := 0) F hxK hxZ hKL hnC hX hbl hbA hL3 hi hl G (C := fun w => LI Z (AD 0) (Hm + 240) w (mu (mu N 1 0 0 0) 1 0 0 1)) ej rfl (l_member_IO (gC_root (by omega)) _ _ ⟨rfl, rfl⟩ (x_X6_member_w Z l hst AD M (78 + ns) (by omega) nm j hM hj _ (ix_n h2))) ⟨rfl, rfl⟩ ⟨Nat.le_of_ble_eq_true rfl, Nat.le_of_ble_eq_true rfl⟩ (c_X8_member_w Z l AR N 16 (Nat.le_refl 16) ns nm j hN hj _ (ix_w (n := 9) (by omega) h2)) ⟨rfl, rfl⟩ ⟨Nat.le_of_ble_eq_true rfl, Nat.le_of_ble_eq_true rfl⟩ ⟨by omega, by omega⟩ mu_s (fun w hw => ⟨_, f, hw, fun h => absurd h (by decide), AD, M, ns, nm, H0, rfl, rfl, hr.z.z, by omega⟩) (fun H locs w g ls hC G hl => W.widen (by omega) (by omega) (kk H locs w g _ ls hC G hl))
  exact law_member (mc := 0) (ms := 0) (mc2 := 0) (ms2 := 0) F hxK hxZ hKL hnC hX hbl hbA hL3 hi hl G (C := fun w => LI Z (AD 0) (Hm + 240) w (mu N 1 0 0 0)) ej ev (l_member (gC_root (by omega)) _ _ ⟨rfl, rfl⟩ (c_X6_member Z l AD M (78 + ns) (by omega) ns nm j v hS hM hZ hj hv).toE) ⟨rfl, rfl⟩ ⟨Nat.le_of_ble_eq_true rfl, Nat.le_of_ble_eq_true rfl⟩ (c_X8_member Z l AR N 16 (Nat.le_refl 16) ns nm j v hN hXR hj hv) ⟨rfl, rfl⟩ ⟨Nat.le_of_ble_eq_true rfl, Nat.le_of_ble_eq_true rfl⟩ ⟨by omega, by omega⟩ (mu_s) (fun w hw => by
    obtain ⟨ws', g, hw', hg, rfl⟩ := hw
    exact ⟨_, g, rfl, fun _ => hg.trans (congrArg Int32.toInt64 (tem_eq hr.z hj hv)), AD, _, ns, nm, H0, hw', rfl, hr.z, by omega⟩) (fun H locs w g ls hC G hl => W.widen (by omega) (by omega) (kk H locs w g _ ls hC G hl))
set_option maxRecDepth 100000 in
set_option maxHeartbeats 4000000 in
theorem do_strength (S : lawS p l s m meth c Z cL A b L xs) (hi : i + 6 < L) (hI : LI Z ax Hm ws1 N) (hHm : Hm ≤ 200000) (hl : lv_has ls 9 [(0, .ref b), (1, .ref ax), (2, .ref (AR 0)), (3, .ref o), (4, .int (nI i))]) (G : gG Z A s ((ws1 ++ [(o, outE cL f)]) ++ wR Z AR N 16) H locs) (hroom : cells + 2 ≤ room_1.cells ∧ slots + 12 ≤ room_1.slots) (kk : LK p l e s m below meth c Q Z cL A b i ax o AR (Hm + 240) (cells + 2) (slots + 12)) : W p l e room_1 s m #[Value.ref b] below meth c H locs cells slots Q (F0 m 745 ls []) := by
  obtain ⟨F, hxK, hxZ, hKL, hnC, hX, hbl, hbA, hL3, hst⟩ := S
  obtain ⟨AD, M, ns, nm, H0, rfl, rfl, hr, hH⟩ := hI
  have hS := hr.2.1
  have hM := hr.2.2.1
  have hZ := hr.okZ
  have hN := hr.okN
  have hXR := hr.okX
  have hns := hS.2.1
  have hnm := hM.2
  rcases ix (n := nm) (by omega) (xs (i + 1)) with h1 | ⟨j, hj, ej⟩
  · skip
    exact law_strength (mc := 1) (ms := 6) (mc2 := 0) (ms2 := 0) F hxK hxZ hKL hnC hX hbl hbA hL3 hi hl G (C := fun w => LI Z (AD 0) (Hm + 240) w (mu (mu N 1 0 0 0) 1 0 0 1)) rfl rfl (l_strength_IO (gC_root (by omega)) _ _ ⟨rfl, rfl⟩ (x_X6_strength_m Z l hst AD M (78 + ns) (by omega) nm hM _ _ h1)) ⟨rfl, rfl⟩ ⟨Nat.le_of_ble_eq_true rfl, Nat.le_of_ble_eq_true rfl⟩ (c_X8_strength_m Z l AR N 16 (Nat.le_refl 16) ns nm hN _ _ h1) ⟨rfl, rfl⟩ ⟨Nat.le_of_ble_eq_true rfl, Nat.le_of_ble_eq_true rfl⟩ ⟨by omega, by omega⟩ mu_s (fun w hw => ⟨_, f, hw, fun h => absurd h (by decide), AD, M, ns, nm, H0, rfl, rfl, hr.z.z, by omega⟩) (fun H locs w g ls hC G hl => W.widen (by omega) (by omega) (kk H locs w g _ ls hC G hl))
  rcases ix (n := ns) (by omega) (xs (i + 2)) with h2 | ⟨k, hk, ek⟩
  · skip
    exact law_strength (mc := 1) (ms := 6) (mc2 := 0) (ms2 := 0) F hxK hxZ hKL hnC hX hbl hbA hL3 hi hl G (C := fun w => LI Z (AD 0) (Hm + 240) w (mu (mu N 1 0 0 0) 1 0 0 1)) ej rfl (l_strength_IO (gC_root (by omega)) _ _ ⟨rfl, rfl⟩ (x_X6_strength_s Z l hst AD M (78 + ns) (by omega) ns nm j hS hM hj _ h2)) ⟨rfl, rfl⟩ ⟨Nat.le_of_ble_eq_true rfl, Nat.le_of_ble_eq_true rfl⟩ (c_X8_strength_s Z l AR N 16 (Nat.le_refl 16) ns nm j hN hj _ h2) ⟨rfl, rfl⟩ ⟨Nat.le_of_ble_eq_true rfl, Nat.le_of_ble_eq_true rfl⟩ ⟨by omega, by omega⟩ mu_s (fun w hw => ⟨_, f, hw, fun h => absurd h (by decide), AD, M, ns, nm, H0, rfl, rfl, hr.z.z, by omega⟩) (fun H locs w g ls hC G hl => W.widen (by omega) (by omega) (kk H locs w g _ ls hC G hl))
  exact law_strength (mc := 0) (ms := 0) (mc2 := 0) (ms2 := 0) F hxK hxZ hKL hnC hX hbl hbA hL3 hi hl G (C := fun w => LI Z (AD 0) (Hm + 240) w (mu N 1 0 0 0)) ej ek (l_strength (gC_root (by omega)) _ _ ⟨rfl, rfl⟩ (c_X6_strength Z l AD M (78 + ns) (by omega) ns nm j k hS hM hj hk).toE) ⟨rfl, rfl⟩ ⟨Nat.le_of_ble_eq_true rfl, Nat.le_of_ble_eq_true rfl⟩ (c_X8_strength Z l AR N 16 (Nat.le_refl 16) ns nm j k hN hj hk) ⟨rfl, rfl⟩ ⟨Nat.le_of_ble_eq_true rfl, Nat.le_of_ble_eq_true rfl⟩ ⟨by omega, by omega⟩ (mu_s) (fun w hw => by
    obtain ⟨ws', g, hw', hg, rfl⟩ := hw
    exact ⟨_, g, rfl, fun _ => hg.trans (congrArg Int32.toInt64 (str_told hr.z (by omega) hj hk)), AD, _, ns, nm, H0, hw', rfl, hr.z, by omega⟩) (fun H locs w g ls hC G hl => W.widen (by omega) (by omega) (kk H locs w g _ ls hC G hl))
set_option maxRecDepth 100000 in
set_option maxHeartbeats 4000000 in
theorem do_hears (S : lawS p l s m meth c Z cL A b L xs) (hi : i + 6 < L) (hI : LI Z ax Hm ws1 N) (hHm : Hm ≤ 200000) (hl : lv_has ls 9 [(0, .ref b), (1, .ref ax), (2, .ref (AR 0)), (3, .ref o), (4, .int (nI i))]) (G : gG Z A s ((ws1 ++ [(o, outE cL f)]) ++ wR Z AR N 16) H locs) (hroom : cells + 2 ≤ room_1.cells ∧ slots + 12 ≤ room_1.slots) (kk : LK p l e s m below meth c Q Z cL A b i ax o AR (Hm + 240) (cells + 2) (slots + 12)) : W p l e room_1 s m #[Value.ref b] below meth c H locs cells slots Q (F0 m 813 ls []) := by
  obtain ⟨F, hxK, hxZ, hKL, hnC, hX, hbl, hbA, hL3, hst⟩ := S
  obtain ⟨AD, M, ns, nm, H0, rfl, rfl, hr, hH⟩ := hI
  have hS := hr.2.1
  have hM := hr.2.2.1
  have hZ := hr.okZ
  have hN := hr.okN
  have hXR := hr.okX
  have hns := hS.2.1
  have hnm := hM.2
  rcases ix (n := nm) (by omega) (xs (i + 1)) with h1 | ⟨j, hj, ej⟩
  · skip
    exact law_hears (mc := 1) (ms := 6) (mc2 := 0) (ms2 := 0) F hxK hxZ hKL hnC hX hbl hbA hL3 hi hl G (C := fun w => LI Z (AD 0) (Hm + 240) w (mu (mu N 1 0 0 0) 1 0 0 1)) rfl (l_hears_IO (gC_root (by omega)) _ ⟨rfl, rfl⟩ (x_X6_hears_m Z l hst AD M (78 + ns) (by omega) nm hM _ h1)) ⟨rfl, rfl⟩ ⟨Nat.le_of_ble_eq_true rfl, Nat.le_of_ble_eq_true rfl⟩ (c_X8_hears_m Z l AR N 16 (Nat.le_refl 16) ns nm hN _ h1) ⟨rfl, rfl⟩ ⟨Nat.le_of_ble_eq_true rfl, Nat.le_of_ble_eq_true rfl⟩ ⟨by omega, by omega⟩ mu_s (fun w hw => ⟨_, f, hw, fun h => absurd h (by decide), AD, M, ns, nm, H0, rfl, rfl, hr.z.z, by omega⟩) (fun H locs w g ls hC G hl => W.widen (by omega) (by omega) (kk H locs w g _ ls hC G hl))
  have hrel := hea_told (hr.z (x := 0)) (by omega) hj
  exact law_hears (mc := 0) (ms := 0) (mc2 := 0) (ms2 := 0) F hxK hxZ hKL hnC hX hbl hbA hL3 hi hl G (C := fun w => LI Z (AD 0) (Hm + 240) w (mu N 1 0 0 0)) ej (l_hears (gC_root (by omega)) _ ⟨rfl, rfl⟩ (c_X6_hears Z l AD M (78 + ns) (by omega) ns nm j hS hM hj).toE) ⟨rfl, rfl⟩ ⟨Nat.le_of_ble_eq_true rfl, Nat.le_of_ble_eq_true rfl⟩ (c_X8_hears Z l AR N 16 (Nat.le_refl 16) ns nm j hN hj) ⟨rfl, rfl⟩ ⟨Nat.le_of_ble_eq_true rfl, Nat.le_of_ble_eq_true rfl⟩ ⟨by omega, by omega⟩ (mu_s) (fun w hw => by
    obtain ⟨ws', g, hw', hg, rfl⟩ := hw
    exact ⟨_, g, rfl, fun _ => hg.trans (congrArg Int32.toInt64 (hrel.1)), AD, _, ns, nm, H0, hw', rfl, hrel.2, by omega⟩) (fun H locs w g ls hC G hl => W.widen (by omega) (by omega) (kk H locs w g _ ls hC G hl))
set_option maxRecDepth 100000 in
set_option maxHeartbeats 4000000 in
theorem do_log (S : lawS p l s m meth c Z cL A b L xs) (hi : i + 6 < L) (hI : LI Z ax Hm ws1 N) (hHm : Hm ≤ 200000) (hl : lv_has ls 9 [(0, .ref b), (1, .ref ax), (2, .ref (AR 0)), (3, .ref o), (4, .int (nI i))]) (G : gG Z A s ((ws1 ++ [(o, outE cL f)]) ++ wR Z AR N 16) H locs) (hroom : cells + 2 ≤ room_1.cells ∧ slots + 12 ≤ room_1.slots) (kk : LK p l e s m below meth c Q Z cL A b i ax o AR (Hm + 240) (cells + 2) (slots + 12)) : W p l e room_1 s m #[Value.ref b] below meth c H locs cells slots Q (F0 m 869 ls []) := by
  obtain ⟨F, hxK, hxZ, hKL, hnC, hX, hbl, hbA, hL3, hst⟩ := S
  obtain ⟨AD, M, ns, nm, H0, rfl, rfl, hr, hH⟩ := hI
  have hS := hr.2.1
  have hM := hr.2.2.1
  have hZ := hr.okZ
  have hN := hr.okN
  have hXR := hr.okX
  have hns := hS.2.1
  have hnm := hM.2
  rcases ix (n := nm) (by omega) (xs (i + 1)) with h1 | ⟨j, hj, ej⟩
  · skip
    exact law_log (mc := 1) (ms := 6) (mc2 := 0) (ms2 := 0) F hxK hxZ hKL hnC hX hbl hbA hL3 hi hl G (C := fun w => LI Z (AD 0) (Hm + 240) w (mu (mu N 1 0 0 0) 1 0 0 1)) rfl rfl rfl (l_log_IO (gC_root (by omega)) _ _ _ ⟨rfl, rfl⟩ (x_X6_log_m Z l hst AD M (78 + ns) (by omega) nm hM _ _ _ h1)) ⟨rfl, rfl⟩ ⟨Nat.le_of_ble_eq_true rfl, Nat.le_of_ble_eq_true rfl⟩ (c_X8_log_m Z l AR N 16 (Nat.le_refl 16) ns nm hN _ _ _ h1) ⟨rfl, rfl⟩ ⟨Nat.le_of_ble_eq_true rfl, Nat.le_of_ble_eq_true rfl⟩ ⟨by omega, by omega⟩ mu_s (fun w hw => ⟨_, f, hw, fun h => absurd h (by decide), AD, M, ns, nm, H0, rfl, rfl, hr.z.z, by omega⟩) (fun H locs w g ls hC G hl => W.widen (by omega) (by omega) (kk H locs w g _ ls hC G hl))
  obtain ⟨z1, z2, z3, z4⟩ := meOk_sz (hr.1.1.2.2.1 j hj)
  rcases ix (n := szN M (8 * 0 + j)) (by omega) (xs (i + 2)) with h2 | ⟨ln, hln, eln⟩
  · skip
    exact law_log (mc := 1) (ms := 6) (mc2 := 0) (ms2 := 0) F hxK hxZ hKL hnC hX hbl hbA hL3 hi hl G (C := fun w => LI Z (AD 0) (Hm + 240) w (mu (mu N 1 0 0 0) 1 0 0 1)) ej rfl rfl (l_log_IO (gC_root (by omega)) _ _ _ ⟨rfl, rfl⟩ (x_X6_log_l Z l hst AD M (78 + ns) (by omega) nm j hM hZ hj _ _ (ix_n h2))) ⟨rfl, rfl⟩ ⟨Nat.le_of_ble_eq_true rfl, Nat.le_of_ble_eq_true rfl⟩ (c_X8_log_l Z l AR N 16 (Nat.le_refl 16) ns nm j (szN M (8 * 0 + j)) hN hj z3 _ _ (ix_L (by omega) h2)) ⟨rfl, rfl⟩ ⟨Nat.le_of_ble_eq_true rfl, Nat.le_of_ble_eq_true rfl⟩ ⟨by omega, by omega⟩ mu_s (fun w hw => ⟨_, f, hw, fun h => absurd h (by decide), AD, M, ns, nm, H0, rfl, rfl, hr.z.z, by omega⟩) (fun H locs w g ls hC G hl => W.widen (by omega) (by omega) (kk H locs w g _ ls hC G hl))
  rcases ix (n := 4) (by omega) (xs (i + 3)) with h3 | ⟨v, hv, ev⟩
  · skip
    exact law_log (mc := 1) (ms := 6) (mc2 := 0) (ms2 := 0) F hxK hxZ hKL hnC hX hbl hbA hL3 hi hl G (C := fun w => LI Z (AD 0) (Hm + 240) w (mu (mu N 1 0 0 0) 1 0 0 1)) ej eln rfl (l_log_IO (gC_root (by omega)) _ _ _ ⟨rfl, rfl⟩ (x_X6_log_w Z l hst AD M (78 + ns) (by omega) nm j ln hM hZ hj hln _ (ix_n h3))) ⟨rfl, rfl⟩ ⟨Nat.le_of_ble_eq_true rfl, Nat.le_of_ble_eq_true rfl⟩ (c_X8_log_w Z l AR N 16 (Nat.le_refl 16) ns nm j ln (szN M (8 * 0 + j)) hN hj z3 z2 hln _ (ix_w (n := 3) (by omega) h3)) ⟨rfl, rfl⟩ ⟨Nat.le_of_ble_eq_true rfl, Nat.le_of_ble_eq_true rfl⟩ ⟨by omega, by omega⟩ mu_s (fun w hw => ⟨_, f, hw, fun h => absurd h (by decide), AD, M, ns, nm, H0, rfl, rfl, hr.z.z, by omega⟩) (fun H locs w g ls hC G hl => W.widen (by omega) (by omega) (kk H locs w g _ ls hC G hl))
  exact law_log (mc := 0) (ms := 0) (mc2 := 0) (ms2 := 0) F hxK hxZ hKL hnC hX hbl hbA hL3 hi hl G (C := fun w => LI Z (AD 0) (Hm + 240) w (mu N 1 0 0 0)) ej eln ev (l_log (gC_root (by omega)) _ _ _ ⟨rfl, rfl⟩ (c_X6_log Z l AD M (78 + ns) (by omega) nm j ln v hM hZ hj hln hv).toE) ⟨rfl, rfl⟩ ⟨Nat.le_of_ble_eq_true rfl, Nat.le_of_ble_eq_true rfl⟩ (c_X8_log Z l AR N 16 (Nat.le_refl 16) ns nm j ln (szN M (8 * 0 + j)) hN hj z3 z2 hln v hv) ⟨rfl, rfl⟩ ⟨Nat.le_of_ble_eq_true rfl, Nat.le_of_ble_eq_true rfl⟩ ⟨by omega, by omega⟩ (mu_s) (fun w hw => by
    obtain ⟨ws', g, hw', hg, rfl⟩ := hw
    exact ⟨_, g, rfl, fun _ => hg.trans (congrArg Int32.toInt64 (log_told hr hj hln hv)), AD, _, ns, nm, H0, hw', rfl, hr.z, by omega⟩) (fun H locs w g ls hC G hl => W.widen (by omega) (by omega) (kk H locs w g _ ls hC G hl))
set_option maxRecDepth 100000 in
set_option maxHeartbeats 4000000 in
theorem do_write (S : lawS p l s m meth c Z cL A b L xs) (hi : i + 6 < L) (hI : LI Z ax Hm ws1 N) (hHm : Hm ≤ 200000) (hl : lv_has ls 9 [(0, .ref b), (1, .ref ax), (2, .ref (AR 0)), (3, .ref o), (4, .int (nI i))]) (G : gG Z A s ((ws1 ++ [(o, outE cL f)]) ++ wR Z AR N 16) H locs) (hroom : cells + 2 ≤ room_1.cells ∧ slots + 12 ≤ room_1.slots) (kk : LK p l e s m below meth c Q Z cL A b i ax o AR (Hm + 240) (cells + 2) (slots + 12)) : W p l e room_1 s m #[Value.ref b] below meth c H locs cells slots Q (F0 m 949 ls []) := by
  obtain ⟨F, hxK, hxZ, hKL, hnC, hX, hbl, hbA, hL3, hst⟩ := S
  obtain ⟨AD, M, ns, nm, H0, rfl, rfl, hr, hH⟩ := hI
  have hS := hr.2.1
  have hM := hr.2.2.1
  have hZ := hr.okZ
  have hN := hr.okN
  have hXR := hr.okX
  have hns := hS.2.1
  have hnm := hM.2
  rcases ix (n := nm) (by omega) (xs (i + 1)) with h1 | ⟨j, hj, ej⟩
  · skip
    exact law_write (mc := 1) (ms := 6) (mc2 := 0) (ms2 := 0) F hxK hxZ hKL hnC hX hbl hbA hL3 hi hl G (C := fun w => LI Z (AD 0) (Hm + 240) w (mu (mu N 1 0 0 0) 1 0 0 1)) rfl rfl (l_write_IO (gC_root (by omega)) _ _ ⟨rfl, rfl⟩ (x_X6_write_m Z l hst AD M (78 + ns) (by omega) nm hM _ _ h1)) ⟨rfl, rfl⟩ ⟨Nat.le_of_ble_eq_true rfl, Nat.le_of_ble_eq_true rfl⟩ (c_X8_write_m Z l AR N 16 (Nat.le_refl 16) ns nm hN _ _ h1) ⟨rfl, rfl⟩ ⟨Nat.le_of_ble_eq_true rfl, Nat.le_of_ble_eq_true rfl⟩ ⟨by omega, by omega⟩ mu_s (fun w hw => ⟨_, f, hw, fun h => absurd h (by decide), AD, M, ns, nm, H0, rfl, rfl, hr.z.z, by omega⟩) (fun H locs w g ls hC G hl => W.widen (by omega) (by omega) (kk H locs w g _ ls hC G hl))
  obtain ⟨z1, z2, z3, z4⟩ := meOk_sz (hr.1.1.2.2.1 j hj)
  rcases ix (n := szN M (8 * 0 + j)) (by omega) (xs (i + 2)) with h2 | ⟨ln, hln, eln⟩
  · skip
    exact law_write (mc := 1) (ms := 6) (mc2 := 0) (ms2 := 0) F hxK hxZ hKL hnC hX hbl hbA hL3 hi hl G (C := fun w => LI Z (AD 0) (Hm + 240) w (mu (mu N 1 0 0 0) 1 0 0 1)) ej rfl (l_write_IO (gC_root (by omega)) _ _ ⟨rfl, rfl⟩ (x_X6_write_l Z l hst AD M (78 + ns) (by omega) nm j hM hZ hj _ (ix_n h2))) ⟨rfl, rfl⟩ ⟨Nat.le_of_ble_eq_true rfl, Nat.le_of_ble_eq_true rfl⟩ (c_X8_write_l Z l AR N 16 (Nat.le_refl 16) ns nm j (szN M (8 * 0 + j)) hN hj z3 _ (ix_L (by omega) h2)) ⟨rfl, rfl⟩ ⟨Nat.le_of_ble_eq_true rfl, Nat.le_of_ble_eq_true rfl⟩ ⟨by omega, by omega⟩ mu_s (fun w hw => ⟨_, f, hw, fun h => absurd h (by decide), AD, M, ns, nm, H0, rfl, rfl, hr.z.z, by omega⟩) (fun H locs w g ls hC G hl => W.widen (by omega) (by omega) (kk H locs w g _ ls hC G hl))
  obtain ⟨q, hle⟩ := hr.1.2.1
  have q30 := hle.1.1
  have qM := hle.1.2.1
  have qN := hle.1.2.2
  obtain ⟨w1, ⟨sn, hsn, w2⟩, w3⟩ := liOk_of (hr.1.1.2.2.1 j hj) ln hln
  have ow : owL (mu N 1 0 0 0) (nI (40 * j + ln)) q = owL N (nI (40 * j + ln)) q := owL_c (mu_o (by omega)) q
  have hoe := ow_eq hr.1.1 hle rfl hj (show ln < 40 by omega)
  have ws : (M 16 (8 * 0 + j) (ln * 4 + 3) = 1 ∨ hlP M 0 (nI j) (nI ln) q ∨ ¬ q < 30) ∨ ¬ (M 16 (8 * 0 + j) (ln * 4 + 3) = 1 ∨ hlP M 0 (nI j) (nI ln) q ∨ ¬ q < 30) := Classical.em _
  rcases ws with ho | ho
  · have ho2 : N 14 0 (4 * (40 * j + ln) + 3) = 1 ∨ ¬ owL (mu N 1 0 0 0) (nI (40 * j + ln)) q = 0 ∨ ¬ q < 30 := by
      rw [← w1 3 (by omega), ow]
      exact ho.imp id (fun z => z.imp hoe.mp id)
    exact law_write (mc := 1) (ms := 6) (mc2 := 0) (ms2 := 0) F hxK hxZ hKL hnC hX hbl hbA hL3 hi hl G (C := fun w => LI Z (AD 0) (Hm + 240) w (mu (mu N 1 0 0 0) 1 0 0 2)) ej eln (l_write_IS (gC_root (by omega)) _ _ ⟨rfl, rfl⟩ (x_X6_write_s Z l hst AD M (78 + ns) (by omega) ns nm j ln q hS hM hZ hj hln qM q30 ho)) ⟨rfl, rfl⟩ ⟨Nat.le_of_ble_eq_true rfl, Nat.le_of_ble_eq_true rfl⟩ (c_X8_write_s Z l AR N 16 (Nat.le_refl 16) ns nm j ln (szN M (8 * 0 + j)) hN hj z3 z2 hln q qN q30 ho2) ⟨rfl, rfl⟩ ⟨Nat.le_of_ble_eq_true rfl, Nat.le_of_ble_eq_true rfl⟩ ⟨by omega, by omega⟩ mu_s (fun w hw => ⟨_, f, hw, fun h => absurd h (by decide), AD, M, ns, nm, H0, rfl, rfl, hr.z.z, by omega⟩) (fun H locs w g ls hC G hl => W.widen (by omega) (by omega) (kk H locs w g _ ls hC G hl))
  have g1 := not_or.mp ho
  have g2 := not_or.mp g1.2
  have hq3 : q < 30 := Classical.byContradiction g2.2
  have how : owL (mu N 1 0 0 0) (nI (40 * j + ln)) q = 0 := by
    rw [ow]
    exact Classical.byContradiction fun z => g2.1 (hoe.mpr z)
  have hrel := rel_write hr hj hln qM hq3 hsn w2 g1.1 g2.1
  exact law_write (mc := 0) (ms := 0) (mc2 := 0) (ms2 := 0) F hxK hxZ hKL hnC hX hbl hbA hL3 hi hl G (C := fun w => LI Z (AD 0) (Hm + 240) w (wtR N j ln sn q)) ej eln (l_write (gC_root (by omega)) _ _ ⟨rfl, rfl⟩ (c_X6_write Z l AD M (78 + ns) (by omega) ns nm j ln sn q hS hM hZ hj hln qM q30 g1.1 g2.1 hq3 hsn w2).toE) ⟨rfl, rfl⟩ ⟨Nat.le_of_ble_eq_true rfl, Nat.le_of_ble_eq_true rfl⟩ (c_X8_write Z l AR N 16 (Nat.le_refl 16) ns nm j ln (szN M (8 * 0 + j)) hN hj z3 z2 hln q qN q30 sn hsn (by rw [← w1 1 (by omega)]; exact w2) (by rw [← w1 3 (by omega)]; exact g1.1) how hq3) ⟨rfl, rfl⟩ ⟨Nat.le_of_ble_eq_true rfl, Nat.le_of_ble_eq_true rfl⟩ ⟨by omega, by omega⟩ (by
    unfold wtR
    rw [mu_o (by omega), mu_o (by omega), mu_o (by omega)]
    exact mu_s) (fun w hw => by
    obtain ⟨ws', g, hw', hg, rfl⟩ := hw
    exact ⟨_, g, rfl, fun _ => hg.trans (congrArg Int32.toInt64 (hrel.1)), AD, _, ns, nm, H0, hw', rfl, hrel.2, by omega⟩) (fun H locs w g ls hC G hl => W.widen (by omega) (by omega) (kk H locs w g _ ls hC G hl))
set_option maxRecDepth 100000 in
set_option maxHeartbeats 4000000 in
theorem do_pass (S : lawS p l s m meth c Z cL A b L xs) (hi : i + 6 < L) (hI : LI Z ax Hm ws1 N) (hHm : Hm ≤ 200000) (hl : lv_has ls 9 [(0, .ref b), (1, .ref ax), (2, .ref (AR 0)), (3, .ref o), (4, .int (nI i))]) (G : gG Z A s ((ws1 ++ [(o, outE cL f)]) ++ wR Z AR N 16) H locs) (hroom : cells + 2 ≤ room_1.cells ∧ slots + 12 ≤ room_1.slots) (kk : LK p l e s m below meth c Q Z cL A b i ax o AR (Hm + 240) (cells + 2) (slots + 12)) : W p l e room_1 s m #[Value.ref b] below meth c H locs cells slots Q (F0 m 1017 ls []) := by
  obtain ⟨F, hxK, hxZ, hKL, hnC, hX, hbl, hbA, hL3, hst⟩ := S
  obtain ⟨AD, M, ns, nm, H0, rfl, rfl, hr, hH⟩ := hI
  have hS := hr.2.1
  have hM := hr.2.2.1
  have hZ := hr.okZ
  have hN := hr.okN
  have hXR := hr.okX
  have hns := hS.2.1
  have hnm := hM.2
  by_cases h1 : xs (i + 1) < 1 ∨ 240 < xs (i + 1)
  · skip
    exact law_pass (mc := 1) (ms := 6) (mc2 := 0) (ms2 := 0) F hxK hxZ hKL hnC hX hbl hbA hL3 hi hl G (C := fun w => LI Z (AD 0) (Hm + 240) w (mu (mu N 1 0 0 0) 1 0 0 1)) rfl (l_pass_IA (gC_root (by omega)) _ ⟨rfl, rfl⟩ (x_X6_pass_a Z l hst AD M (78 + ns) (by omega) _ h1)) ⟨rfl, rfl⟩ ⟨Nat.le_of_ble_eq_true rfl, Nat.le_of_ble_eq_true rfl⟩ (c_X8_pass_a Z l AR N 16 (Nat.le_refl 16) _ h1) ⟨rfl, rfl⟩ ⟨Nat.le_of_ble_eq_true rfl, Nat.le_of_ble_eq_true rfl⟩ ⟨by omega, by omega⟩ mu_s (fun w hw => ⟨_, f, hw, fun h => absurd h (by decide), AD, M, ns, nm, H0, rfl, rfl, hr.z.z, by omega⟩) (fun H locs w g ls hC G hl => W.widen (by omega) (by omega) (kk H locs w g _ ls hC G hl))
  have g1 := not_or.mp h1
  obtain ⟨h, eh, b1, b2⟩ := in_nat (lo := 1) (hi := 240) (by omega) (by omega) g1.1 g1.2
  have hrel := rel_pass (h := h) hr (by omega)
  exact law_pass (mc := 0) (ms := 0) (mc2 := 0) (ms2 := 0) F hxK hxZ hKL hnC hX hbl hbA hL3 hi hl G (C := fun w => LI Z (AD 0) (Hm + 240) w (paR (mu N 1 0 0 0) 0 ns nm h)) eh (l_pass (gC_root (by omega)) _ ⟨rfl, rfl⟩ (c_X6_pass Z l AD M (78 + ns) (by omega) ns nm h b2 b1 hrel.2.2.1).toE) ⟨rfl, rfl⟩ ⟨Nat.le_of_ble_eq_true rfl, Nat.le_of_ble_eq_true rfl⟩ (c_X8_pass Z l AR N 16 (Nat.le_refl 16) ns nm h b2 b1 hrel.2.2.2) ⟨rfl, rfl⟩ ⟨Nat.le_of_ble_eq_true rfl, Nat.le_of_ble_eq_true rfl⟩ ⟨by omega, by omega⟩ (by
    rw [paR_fr (by omega)]
    exact mu_s) (fun w hw => by
    obtain ⟨ws', g, hw', hg, rfl⟩ := hw
    exact ⟨_, g, rfl, fun _ => hg.trans (congrArg Int32.toInt64 (hrel.1)), AD, _, ns, nm, H0 + h, hw', rfl, hrel.2.1, by omega⟩) (fun H locs w g ls hC G hl => W.widen (by omega) (by omega) (kk H locs w g _ ls hC G hl))
set_option maxRecDepth 100000 in
set_option maxHeartbeats 4000000 in
theorem do_count (S : lawS p l s m meth c Z cL A b L xs) (hi : i + 6 < L) (hI : LI Z ax Hm ws1 N) (hHm : Hm ≤ 200000) (hl : lv_has ls 9 [(0, .ref b), (1, .ref ax), (2, .ref (AR 0)), (3, .ref o), (4, .int (nI i))]) (G : gG Z A s ((ws1 ++ [(o, outE cL f)]) ++ wR Z AR N 16) H locs) (hroom : cells + 2 ≤ room_1.cells ∧ slots + 12 ≤ room_1.slots) (kk : LK p l e s m below meth c Q Z cL A b i ax o AR (Hm + 240) (cells + 2) (slots + 12)) : W p l e room_1 s m #[Value.ref b] below meth c H locs cells slots Q (F0 m 1073 ls []) := by
  obtain ⟨F, hxK, hxZ, hKL, hnC, hX, hbl, hbA, hL3, hst⟩ := S
  obtain ⟨AD, M, ns, nm, H0, rfl, rfl, hr, hH⟩ := hI
  have hS := hr.2.1
  have hM := hr.2.2.1
  have hZ := hr.okZ
  have hN := hr.okN
  have hXR := hr.okX
  have hns := hS.2.1
  have hnm := hM.2
  rcases ix (n := 8) (by omega) (xs (i + 1)) with h1 | ⟨v, hv, ev⟩
  · skip
    exact law_count (mc := 1) (ms := 6) (mc2 := 0) (ms2 := 0) F hxK hxZ hKL hnC hX hbl hbA hL3 hi hl G (C := fun w => LI Z (AD 0) (Hm + 240) w (mu (mu N 1 0 0 0) 1 0 0 1)) rfl (l_count_IO (gC_root (by omega)) _ ⟨rfl, rfl⟩ (x_X6_count_w Z l hst AD M (78 + ns) (by omega) _ (ix_n h1))) ⟨rfl, rfl⟩ ⟨Nat.le_of_ble_eq_true rfl, Nat.le_of_ble_eq_true rfl⟩ (c_X8_count_w Z l AR N 16 (Nat.le_refl 16) _ (ix_w (n := 7) (by omega) h1)) ⟨rfl, rfl⟩ ⟨Nat.le_of_ble_eq_true rfl, Nat.le_of_ble_eq_true rfl⟩ ⟨by omega, by omega⟩ mu_s (fun w hw => ⟨_, f, hw, fun h => absurd h (by decide), AD, M, ns, nm, H0, rfl, rfl, hr.z.z, by omega⟩) (fun H locs w g ls hC G hl => W.widen (by omega) (by omega) (kk H locs w g _ ls hC G hl))
  exact law_count (mc := 0) (ms := 0) (mc2 := 0) (ms2 := 0) F hxK hxZ hKL hnC hX hbl hbA hL3 hi hl G (C := fun w => LI Z (AD 0) (Hm + 240) w (mu N 1 0 0 0)) ev (l_count (gC_root (by omega)) _ ⟨rfl, rfl⟩ (c_X6_count Z l AD M (78 + ns) (by omega) ns nm v hS hM hZ hv).toE) ⟨rfl, rfl⟩ ⟨Nat.le_of_ble_eq_true rfl, Nat.le_of_ble_eq_true rfl⟩ (c_X8_count Z l AR N 16 (Nat.le_refl 16) ns nm v hN hv) ⟨rfl, rfl⟩ ⟨Nat.le_of_ble_eq_true rfl, Nat.le_of_ble_eq_true rfl⟩ ⟨by omega, by omega⟩ (mu_s) (fun w hw => by
    obtain ⟨ws', g, hw', hg, rfl⟩ := hw
    exact ⟨_, g, rfl, fun _ => hg.trans (congrArg Int32.toInt64 (tec_eq hr.z (by omega) hv)), AD, _, ns, nm, H0, hw', rfl, hr.z, by omega⟩) (fun H locs w g ls hC G hl => W.widen (by omega) (by omega) (kk H locs w g _ ls hC G hl))
set_option maxRecDepth 100000 in
set_option maxHeartbeats 4000000 in
theorem do_rank (S : lawS p l s m meth c Z cL A b L xs) (hi : i + 6 < L) (hI : LI Z ax Hm ws1 N) (hHm : Hm ≤ 200000) (hl : lv_has ls 9 [(0, .ref b), (1, .ref ax), (2, .ref (AR 0)), (3, .ref o), (4, .int (nI i))]) (G : gG Z A s ((ws1 ++ [(o, outE cL f)]) ++ wR Z AR N 16) H locs) (hroom : cells + 2 ≤ room_1.cells ∧ slots + 12 ≤ room_1.slots) (kk : LK p l e s m below meth c Q Z cL A b i ax o AR (Hm + 240) (cells + 2) (slots + 12)) : W p l e room_1 s m #[Value.ref b] below meth c H locs cells slots Q (F0 m 1129 ls []) := by
  obtain ⟨F, hxK, hxZ, hKL, hnC, hX, hbl, hbA, hL3, hst⟩ := S
  obtain ⟨AD, M, ns, nm, H0, rfl, rfl, hr, hH⟩ := hI
  have hS := hr.2.1
  have hM := hr.2.2.1
  have hZ := hr.okZ
  have hN := hr.okN
  have hXR := hr.okX
  have hns := hS.2.1
  have hnm := hM.2
  rcases ix (n := nm) (by omega) (xs (i + 1)) with h1 | ⟨q, hq, eq⟩
  · skip
    exact law_rank (mc := 1) (ms := 6) (mc2 := 0) (ms2 := 0) F hxK hxZ hKL hnC hX hbl hbA hL3 hi hl G (C := fun w => LI Z (AD 0) (Hm + 240) w (mu (mu N 1 0 0 0) 1 0 0 1)) rfl (l_rank_IO (gC_root (by omega)) _ ⟨rfl, rfl⟩ (x_X6_rank_w Z l hst AD M (78 + ns) (by omega) nm hM _ (ix_n h1))) ⟨rfl, rfl⟩ ⟨Nat.le_of_ble_eq_true rfl, Nat.le_of_ble_eq_true rfl⟩ (c_X8_rank_w Z l AR N 16 (Nat.le_refl 16) ns nm hN _ h1) ⟨rfl, rfl⟩ ⟨Nat.le_of_ble_eq_true rfl, Nat.le_of_ble_eq_true rfl⟩ ⟨by omega, by omega⟩ mu_s (fun w hw => ⟨_, f, hw, fun h => absurd h (by decide), AD, M, ns, nm, H0, rfl, rfl, hr.z.z, by omega⟩) (fun H locs w g ls hC G hl => W.widen (by omega) (by omega) (kk H locs w g _ ls hC G hl))
  exact law_rank (mc := 0) (ms := 0) (mc2 := 0) (ms2 := 0) F hxK hxZ hKL hnC hX hbl hbA hL3 hi hl G (C := fun w => LI Z (AD 0) (Hm + 240) w (mu N 1 0 0 0)) eq (l_rank (gC_root (by omega)) _ ⟨rfl, rfl⟩ (c_X6_rank Z l AD M (78 + ns) (by omega) ns nm q hS hM hZ hq).toE) ⟨rfl, rfl⟩ ⟨Nat.le_of_ble_eq_true rfl, Nat.le_of_ble_eq_true rfl⟩ (c_X8_rank Z l AR N 16 (Nat.le_refl 16) ns nm hN hXR q hq) ⟨rfl, rfl⟩ ⟨Nat.le_of_ble_eq_true rfl, Nat.le_of_ble_eq_true rfl⟩ ⟨by omega, by omega⟩ (mu_s) (fun w hw => by
    obtain ⟨ws', g, hw', hg, rfl⟩ := hw
    exact ⟨_, g, rfl, fun _ => hg.trans (congrArg Int32.toInt64 (rank_told hr.z (nI q))), AD, _, ns, nm, H0, hw', rfl, hr.z, by omega⟩) (fun H locs w g ls hC G hl => W.widen (by omega) (by omega) (kk H locs w g _ ls hC G hl))
set_option maxRecDepth 100000 in
set_option maxHeartbeats 4000000 in
theorem do_dial (S : lawS p l s m meth c Z cL A b L xs) (hi : i + 6 < L) (hI : LI Z ax Hm ws1 N) (hHm : Hm ≤ 200000) (hl : lv_has ls 9 [(0, .ref b), (1, .ref ax), (2, .ref (AR 0)), (3, .ref o), (4, .int (nI i))]) (G : gG Z A s ((ws1 ++ [(o, outE cL f)]) ++ wR Z AR N 16) H locs) (hroom : cells + 2 ≤ room_1.cells ∧ slots + 12 ≤ room_1.slots) (kk : LK p l e s m below meth c Q Z cL A b i ax o AR (Hm + 240) (cells + 2) (slots + 12)) : W p l e room_1 s m #[Value.ref b] below meth c H locs cells slots Q (F0 m 1185 ls []) := by
  obtain ⟨F, hxK, hxZ, hKL, hnC, hX, hbl, hbA, hL3, hst⟩ := S
  obtain ⟨AD, M, ns, nm, H0, rfl, rfl, hr, hH⟩ := hI
  have hS := hr.2.1
  have hM := hr.2.2.1
  have hZ := hr.okZ
  have hN := hr.okN
  have hXR := hr.okX
  have hns := hS.2.1
  have hnm := hM.2
  rcases ix (n := nm) (by omega) (xs (i + 1)) with h1 | ⟨j, hj, ej⟩
  · skip
    exact law_dial (mc := 1) (ms := 6) (mc2 := 0) (ms2 := 0) F hxK hxZ hKL hnC hX hbl hbA hL3 hi hl G (C := fun w => LI Z (AD 0) (Hm + 240) w (mu (mu N 1 0 0 0) 1 0 0 1)) rfl rfl (l_dial_IO (gC_root (by omega)) _ _ ⟨rfl, rfl⟩ (x_X6_dial_m Z l hst AD M (78 + ns) (by omega) nm hM _ _ h1)) ⟨rfl, rfl⟩ ⟨Nat.le_of_ble_eq_true rfl, Nat.le_of_ble_eq_true rfl⟩ (c_X8_dial_m Z l AR N 16 (Nat.le_refl 16) ns nm hN _ _ h1) ⟨rfl, rfl⟩ ⟨Nat.le_of_ble_eq_true rfl, Nat.le_of_ble_eq_true rfl⟩ ⟨by omega, by omega⟩ mu_s (fun w hw => ⟨_, f, hw, fun h => absurd h (by decide), AD, M, ns, nm, H0, rfl, rfl, hr.z.z, by omega⟩) (fun H locs w g ls hC G hl => W.widen (by omega) (by omega) (kk H locs w g _ ls hC G hl))
  rcases ix (n := ns) (by omega) (xs (i + 2)) with h2 | ⟨k, hk, ek⟩
  · skip
    exact law_dial (mc := 1) (ms := 6) (mc2 := 0) (ms2 := 0) F hxK hxZ hKL hnC hX hbl hbA hL3 hi hl G (C := fun w => LI Z (AD 0) (Hm + 240) w (mu (mu N 1 0 0 0) 1 0 0 1)) ej rfl (l_dial_IO (gC_root (by omega)) _ _ ⟨rfl, rfl⟩ (x_X6_dial_s Z l hst AD M (78 + ns) (by omega) ns nm j hS hM hj _ h2)) ⟨rfl, rfl⟩ ⟨Nat.le_of_ble_eq_true rfl, Nat.le_of_ble_eq_true rfl⟩ (c_X8_dial_s Z l AR N 16 (Nat.le_refl 16) ns nm j hN hj _ h2) ⟨rfl, rfl⟩ ⟨Nat.le_of_ble_eq_true rfl, Nat.le_of_ble_eq_true rfl⟩ ⟨by omega, by omega⟩ mu_s (fun w hw => ⟨_, f, hw, fun h => absurd h (by decide), AD, M, ns, nm, H0, rfl, rfl, hr.z.z, by omega⟩) (fun H locs w g ls hC G hl => W.widen (by omega) (by omega) (kk H locs w g _ ls hC G hl))
  have hrel := dial_told (hr.z (x := 0)) (by omega) hj hk
  have htd := (dial_told hr (by omega) hj hk).2.2
  exact law_dial (mc := 0) (ms := 0) (mc2 := 0) (ms2 := 0) F hxK hxZ hKL hnC hX hbl hbA hL3 hi hl G (C := fun w => LI Z (AD 0) (Hm + 240) w (mu N 1 0 0 0)) ej ek (l_dial (gC_root (by omega)) _ _ ⟨rfl, rfl⟩ (c_X6_dial Z l AD M (78 + ns) (by omega) ns nm j k hS hM hj hk).toE) ⟨rfl, rfl⟩ ⟨Nat.le_of_ble_eq_true rfl, Nat.le_of_ble_eq_true rfl⟩ (c_X8_dial Z l AR N 16 (Nat.le_refl 16) ns nm j k hN hj hk htd) ⟨rfl, rfl⟩ ⟨Nat.le_of_ble_eq_true rfl, Nat.le_of_ble_eq_true rfl⟩ ⟨by omega, by omega⟩ (mu_s) (fun w hw => by
    obtain ⟨ws', g, hw', hg, rfl⟩ := hw
    exact ⟨_, g, rfl, fun _ => hg.trans (congrArg Int32.toInt64 (hrel.1)), AD, _, ns, nm, H0, hw', rfl, hrel.2.1, by omega⟩) (fun H locs w g ls hC G hl => W.widen (by omega) (by omega) (kk H locs w g _ ls hC G hl))
set_option maxRecDepth 100000 in
set_option maxHeartbeats 4000000 in
theorem do_next (S : lawS p l s m meth c Z cL A b L xs) (hi : i + 6 < L) (hI : LI Z ax Hm ws1 N) (hHm : Hm ≤ 200000) (hl : lv_has ls 9 [(0, .ref b), (1, .ref ax), (2, .ref (AR 0)), (3, .ref o), (4, .int (nI i))]) (G : gG Z A s ((ws1 ++ [(o, outE cL f)]) ++ wR Z AR N 16) H locs) (hroom : cells + 2 ≤ room_1.cells ∧ slots + 12 ≤ room_1.slots) (kk : LK p l e s m below meth c Q Z cL A b i ax o AR (Hm + 240) (cells + 2) (slots + 12)) : W p l e room_1 s m #[Value.ref b] below meth c H locs cells slots Q (F0 m 1253 ls []) := by
  obtain ⟨F, hxK, hxZ, hKL, hnC, hX, hbl, hbA, hL3, hst⟩ := S
  obtain ⟨AD, M, ns, nm, H0, rfl, rfl, hr, hH⟩ := hI
  have hS := hr.2.1
  have hM := hr.2.2.1
  have hZ := hr.okZ
  have hN := hr.okN
  have hXR := hr.okX
  have hns := hS.2.1
  have hnm := hM.2
  rcases ix (n := nm) (by omega) (xs (i + 1)) with h1 | ⟨j, hj, ej⟩
  · skip
    exact law_next (mc := 1) (ms := 6) (mc2 := 0) (ms2 := 0) F hxK hxZ hKL hnC hX hbl hbA hL3 hi hl G (C := fun w => LI Z (AD 0) (Hm + 240) w (mu (mu N 1 0 0 0) 1 0 0 1)) rfl rfl (l_next_IO (gC_root (by omega)) _ _ ⟨rfl, rfl⟩ (x_X6_next_m Z l hst AD M (78 + ns) (by omega) nm hM _ _ h1)) ⟨rfl, rfl⟩ ⟨Nat.le_of_ble_eq_true rfl, Nat.le_of_ble_eq_true rfl⟩ (c_X8_next_m Z l AR N 16 (Nat.le_refl 16) ns nm hN _ _ h1) ⟨rfl, rfl⟩ ⟨Nat.le_of_ble_eq_true rfl, Nat.le_of_ble_eq_true rfl⟩ ⟨by omega, by omega⟩ mu_s (fun w hw => ⟨_, f, hw, fun h => absurd h (by decide), AD, M, ns, nm, H0, rfl, rfl, hr.z.z, by omega⟩) (fun H locs w g ls hC G hl => W.widen (by omega) (by omega) (kk H locs w g _ ls hC G hl))
  rcases ix (n := ns) (by omega) (xs (i + 2)) with h2 | ⟨k, hk, ek⟩
  · skip
    exact law_next (mc := 1) (ms := 6) (mc2 := 0) (ms2 := 0) F hxK hxZ hKL hnC hX hbl hbA hL3 hi hl G (C := fun w => LI Z (AD 0) (Hm + 240) w (mu (mu N 1 0 0 0) 1 0 0 1)) ej rfl (l_next_IO (gC_root (by omega)) _ _ ⟨rfl, rfl⟩ (x_X6_next_s Z l hst AD M (78 + ns) (by omega) ns nm j hS hM hj _ h2)) ⟨rfl, rfl⟩ ⟨Nat.le_of_ble_eq_true rfl, Nat.le_of_ble_eq_true rfl⟩ (c_X8_next_s Z l AR N 16 (Nat.le_refl 16) ns nm j hN hj _ h2) ⟨rfl, rfl⟩ ⟨Nat.le_of_ble_eq_true rfl, Nat.le_of_ble_eq_true rfl⟩ ⟨by omega, by omega⟩ mu_s (fun w hw => ⟨_, f, hw, fun h => absurd h (by decide), AD, M, ns, nm, H0, rfl, rfl, hr.z.z, by omega⟩) (fun H locs w g ls hC G hl => W.widen (by omega) (by omega) (kk H locs w g _ ls hC G hl))
  have hrel := next_told (hr.z (x := 0)) (by omega) hj hk
  exact law_next (mc := 0) (ms := 0) (mc2 := 0) (ms2 := 0) F hxK hxZ hKL hnC hX hbl hbA hL3 hi hl G (C := fun w => LI Z (AD 0) (Hm + 240) w (mu N 1 0 0 0)) ej ek (l_next (gC_root (by omega)) _ _ ⟨rfl, rfl⟩ (c_X6_next Z l AD M (78 + ns) (by omega) ns nm j k hS hM hj hk).toE) ⟨rfl, rfl⟩ ⟨Nat.le_of_ble_eq_true rfl, Nat.le_of_ble_eq_true rfl⟩ (c_X8_next Z l AR N 16 (Nat.le_refl 16) ns nm j k hN hj hk) ⟨rfl, rfl⟩ ⟨Nat.le_of_ble_eq_true rfl, Nat.le_of_ble_eq_true rfl⟩ ⟨by omega, by omega⟩ (mu_s) (fun w hw => by
    obtain ⟨ws', g, hw', hg, rfl⟩ := hw
    exact ⟨_, g, rfl, fun _ => hg.trans (congrArg Int32.toInt64 (hrel.1)), AD, _, ns, nm, H0, hw', rfl, hrel.2, by omega⟩) (fun H locs w g ls hC G hl => W.widen (by omega) (by omega) (kk H locs w g _ ls hC G hl))
set_option maxRecDepth 100000 in
set_option maxHeartbeats 4000000 in
theorem do_apart (S : lawS p l s m meth c Z cL A b L xs) (hi : i + 6 < L) (hI : LI Z ax Hm ws1 N) (hHm : Hm ≤ 200000) (hl : lv_has ls 9 [(0, .ref b), (1, .ref ax), (2, .ref (AR 0)), (3, .ref o), (4, .int (nI i))]) (G : gG Z A s ((ws1 ++ [(o, outE cL f)]) ++ wR Z AR N 16) H locs) (hroom : cells + 2 ≤ room_1.cells ∧ slots + 12 ≤ room_1.slots) (kk : LK p l e s m below meth c Q Z cL A b i ax o AR (Hm + 240) (cells + 2) (slots + 12)) : W p l e room_1 s m #[Value.ref b] below meth c H locs cells slots Q (F0 m 1321 ls []) := by
  obtain ⟨F, hxK, hxZ, hKL, hnC, hX, hbl, hbA, hL3, hst⟩ := S
  obtain ⟨AD, M, ns, nm, H0, rfl, rfl, hr, hH⟩ := hI
  have hS := hr.2.1
  have hM := hr.2.2.1
  have hZ := hr.okZ
  have hN := hr.okN
  have hXR := hr.okX
  have hns := hS.2.1
  have hnm := hM.2
  rcases ix (n := nm) (by omega) (xs (i + 1)) with h1 | ⟨j, hj, ej⟩
  · skip
    exact law_apart (mc := 1) (ms := 6) (mc2 := 0) (ms2 := 0) F hxK hxZ hKL hnC hX hbl hbA hL3 hi hl G (C := fun w => LI Z (AD 0) (Hm + 240) w (mu (mu N 1 0 0 0) 1 0 0 1)) rfl rfl rfl (l_apart_IO (gC_root (by omega)) _ _ _ ⟨rfl, rfl⟩ (x_X6_apart_m Z l hst AD M (78 + ns) (by omega) nm hM _ _ _ h1)) ⟨rfl, rfl⟩ ⟨Nat.le_of_ble_eq_true rfl, Nat.le_of_ble_eq_true rfl⟩ (c_X8_apart_m Z l AR N 16 (Nat.le_refl 16) ns nm hN _ _ _ h1) ⟨rfl, rfl⟩ ⟨Nat.le_of_ble_eq_true rfl, Nat.le_of_ble_eq_true rfl⟩ ⟨by omega, by omega⟩ mu_s (fun w hw => ⟨_, f, hw, fun h => absurd h (by decide), AD, M, ns, nm, H0, rfl, rfl, hr.z.z, by omega⟩) (fun H locs w g ls hC G hl => W.widen (by omega) (by omega) (kk H locs w g _ ls hC G hl))
  rcases ix (n := ns) (by omega) (xs (i + 2)) with h2 | ⟨a, ha, ea⟩
  · skip
    exact law_apart (mc := 1) (ms := 6) (mc2 := 0) (ms2 := 0) F hxK hxZ hKL hnC hX hbl hbA hL3 hi hl G (C := fun w => LI Z (AD 0) (Hm + 240) w (mu (mu N 1 0 0 0) 1 0 0 1)) ej rfl rfl (l_apart_IO (gC_root (by omega)) _ _ _ ⟨rfl, rfl⟩ (x_X6_apart_1 Z l hst AD M (78 + ns) (by omega) ns nm j hS hM hj _ _ h2)) ⟨rfl, rfl⟩ ⟨Nat.le_of_ble_eq_true rfl, Nat.le_of_ble_eq_true rfl⟩ (c_X8_apart_1 Z l AR N 16 (Nat.le_refl 16) ns nm j hN hj _ _ h2) ⟨rfl, rfl⟩ ⟨Nat.le_of_ble_eq_true rfl, Nat.le_of_ble_eq_true rfl⟩ ⟨by omega, by omega⟩ mu_s (fun w hw => ⟨_, f, hw, fun h => absurd h (by decide), AD, M, ns, nm, H0, rfl, rfl, hr.z.z, by omega⟩) (fun H locs w g ls hC G hl => W.widen (by omega) (by omega) (kk H locs w g _ ls hC G hl))
  rcases ix (n := ns) (by omega) (xs (i + 3)) with h3 | ⟨d, hd, ed⟩
  · skip
    exact law_apart (mc := 1) (ms := 6) (mc2 := 0) (ms2 := 0) F hxK hxZ hKL hnC hX hbl hbA hL3 hi hl G (C := fun w => LI Z (AD 0) (Hm + 240) w (mu (mu N 1 0 0 0) 1 0 0 1)) ej ea rfl (l_apart_IO (gC_root (by omega)) _ _ _ ⟨rfl, rfl⟩ (x_X6_apart_2 Z l hst AD M (78 + ns) (by omega) ns nm j a hS hM hj ha _ h3)) ⟨rfl, rfl⟩ ⟨Nat.le_of_ble_eq_true rfl, Nat.le_of_ble_eq_true rfl⟩ (c_X8_apart_2 Z l AR N 16 (Nat.le_refl 16) ns nm j a hN hj ha _ h3) ⟨rfl, rfl⟩ ⟨Nat.le_of_ble_eq_true rfl, Nat.le_of_ble_eq_true rfl⟩ ⟨by omega, by omega⟩ mu_s (fun w hw => ⟨_, f, hw, fun h => absurd h (by decide), AD, M, ns, nm, H0, rfl, rfl, hr.z.z, by omega⟩) (fun H locs w g ls hC G hl => W.widen (by omega) (by omega) (kk H locs w g _ ls hC G hl))
  by_cases hab : nI a = nI d
  · skip
    exact law_apart (mc := 1) (ms := 6) (mc2 := 0) (ms2 := 0) F hxK hxZ hKL hnC hX hbl hbA hL3 hi hl G (C := fun w => LI Z (AD 0) (Hm + 240) w (mu (mu N 1 0 0 0) 1 0 0 2)) ej ea ed (l_apart_IA (gC_root (by omega)) _ _ _ ⟨rfl, rfl⟩ (x_X6_apart_e Z l hst AD M (78 + ns) (by omega) ns nm j a d hS hM hj ha hd hab)) ⟨rfl, rfl⟩ ⟨Nat.le_of_ble_eq_true rfl, Nat.le_of_ble_eq_true rfl⟩ (c_X8_apart_e Z l AR N 16 (Nat.le_refl 16) ns nm j a d hN hj ha hd hab) ⟨rfl, rfl⟩ ⟨Nat.le_of_ble_eq_true rfl, Nat.le_of_ble_eq_true rfl⟩ ⟨by omega, by omega⟩ mu_s (fun w hw => ⟨_, f, hw, fun h => absurd h (by decide), AD, M, ns, nm, H0, rfl, rfl, hr.z.z, by omega⟩) (fun H locs w g ls hC G hl => W.widen (by omega) (by omega) (kk H locs w g _ ls hC G hl))
  have hrel := apart_told (hr.z (x := 0)) (by omega) hj ha hd (fun z => hab (by rw [z]))
  have htd : ∀ d u : Nat, d < 181 → u < 101 → ¬ nI (20 + d) + nI u = 0 := fun d u h1 h2 z => by
    rw [nI_add] at z
    have := nI_inj (a := 20 + d + u) (b := 0) (by omega) (by omega) z
    omega
  exact law_apart (mc := 0) (ms := 0) (mc2 := 0) (ms2 := 0) F hxK hxZ hKL hnC hX hbl hbA hL3 hi hl G (C := fun w => LI Z (AD 0) (Hm + 240) w (mu N 1 0 0 0)) ej ea ed (l_apart (gC_root (by omega)) _ _ _ ⟨rfl, rfl⟩ (c_X6_apart Z l AD M (78 + ns) (by omega) ns nm j a d hS hM hj ha hd hab).toE) ⟨rfl, rfl⟩ ⟨Nat.le_of_ble_eq_true rfl, Nat.le_of_ble_eq_true rfl⟩ (c_X8_apart Z l AR N 16 (Nat.le_refl 16) ns nm j a d hN hj ha hd hab htd) ⟨rfl, rfl⟩ ⟨Nat.le_of_ble_eq_true rfl, Nat.le_of_ble_eq_true rfl⟩ ⟨by omega, by omega⟩ (mu_s) (fun w hw => by
    obtain ⟨ws', g, hw', hg, rfl⟩ := hw
    exact ⟨_, g, rfl, fun _ => hg.trans (congrArg Int32.toInt64 (hrel.1)), AD, _, ns, nm, H0, hw', rfl, hrel.2, by omega⟩) (fun H locs w g ls hC G hl => W.widen (by omega) (by omega) (kk H locs w g _ ls hC G hl))
set_option maxRecDepth 100000 in
set_option maxHeartbeats 4000000 in
theorem do_foresee (S : lawS p l s m meth c Z cL A b L xs) (hi : i + 6 < L) (hI : LI Z ax Hm ws1 N) (hHm : Hm ≤ 200000) (hl : lv_has ls 9 [(0, .ref b), (1, .ref ax), (2, .ref (AR 0)), (3, .ref o), (4, .int (nI i))]) (G : gG Z A s ((ws1 ++ [(o, outE cL f)]) ++ wR Z AR N 16) H locs) (hroom : cells + 2 ≤ room_1.cells ∧ slots + 12 ≤ room_1.slots) (kk : LK p l e s m below meth c Q Z cL A b i ax o AR (Hm + 240) (cells + 2) (slots + 12)) : W p l e room_1 s m #[Value.ref b] below meth c H locs cells slots Q (F0 m 1401 ls []) := by
  obtain ⟨F, hxK, hxZ, hKL, hnC, hX, hbl, hbA, hL3, hst⟩ := S
  obtain ⟨AD, M, ns, nm, H0, rfl, rfl, hr, hH⟩ := hI
  have hS := hr.2.1
  have hM := hr.2.2.1
  have hZ := hr.okZ
  have hN := hr.okN
  have hXR := hr.okX
  have hns := hS.2.1
  have hnm := hM.2
  by_cases h1 : xs (i + 1) < 1 ∨ 240 < xs (i + 1)
  · skip
    exact law_foresee (mc := 1) (ms := 6) (mc2 := 0) (ms2 := 0) F hxK hxZ hKL hnC hX hbl hbA hL3 hi hl G (C := fun w => LI Z (AD 0) (Hm + 240) w (mu (mu N 1 0 0 0) 1 0 0 1)) rfl rfl (l_foresee_IA (gC_root (by omega)) _ _ ⟨rfl, rfl⟩ (x_X6_foresee_a Z l hst AD M (78 + ns) (by omega) _ _ h1)) ⟨rfl, rfl⟩ ⟨Nat.le_of_ble_eq_true rfl, Nat.le_of_ble_eq_true rfl⟩ (c_X8_foresee_a Z l AR N 16 (Nat.le_refl 16) _ _ h1) ⟨rfl, rfl⟩ ⟨Nat.le_of_ble_eq_true rfl, Nat.le_of_ble_eq_true rfl⟩ ⟨by omega, by omega⟩ mu_s (fun w hw => ⟨_, f, hw, fun h => absurd h (by decide), AD, M, ns, nm, H0, rfl, rfl, hr.z.z, by omega⟩) (fun H locs w g ls hC G hl => W.widen (by omega) (by omega) (kk H locs w g _ ls hC G hl))
  have g1 := not_or.mp h1
  obtain ⟨h, eh, b1, b2⟩ := in_nat (lo := 1) (hi := 240) (by omega) (by omega) g1.1 g1.2
  rcases ix (n := 2) (by omega) (xs (i + 2)) with h2 | ⟨v, hv, ev⟩
  · skip
    exact law_foresee (mc := 1) (ms := 6) (mc2 := 0) (ms2 := 0) F hxK hxZ hKL hnC hX hbl hbA hL3 hi hl G (C := fun w => LI Z (AD 0) (Hm + 240) w (mu (mu N 1 0 0 0) 1 0 0 2)) eh rfl (l_foresee_IO (gC_root (by omega)) _ _ ⟨rfl, rfl⟩ (x_X6_foresee_w Z l hst AD M (78 + ns) (by omega) h b2 b1 _ (ix_n h2))) ⟨rfl, rfl⟩ ⟨Nat.le_of_ble_eq_true rfl, Nat.le_of_ble_eq_true rfl⟩ (c_X8_foresee_w Z l AR N 16 (Nat.le_refl 16) h b2 b1 _ (ix_w (n := 1) (by omega) h2)) ⟨rfl, rfl⟩ ⟨Nat.le_of_ble_eq_true rfl, Nat.le_of_ble_eq_true rfl⟩ ⟨by omega, by omega⟩ mu_s (fun w hw => ⟨_, f, hw, fun h => absurd h (by decide), AD, M, ns, nm, H0, rfl, rfl, hr.z.z, by omega⟩) (fun H locs w g ls hC G hl => W.widen (by omega) (by omega) (kk H locs w g _ ls hC G hl))
  have hrel := rel_fore (h := h) hr (by omega)
  have h14 : ∀ i, i < nm → M 14 (8 * 0 + i) 0 = 0 ∨ M 14 (8 * 0 + i) 0 = 1 := fun i hi => by
    obtain ⟨t, d, cr, a, L, -, ⟨m1, m2, m3, m4, m5, m6, m7⟩, -⟩ := hr.1.1.2.2.1 i hi
    rw [m6]; exact m7
  rcases (show v = 0 ∨ v = 1 by omega) with rfl | rfl
  · skip
    exact law_foresee (mc := 0) (ms := 0) (mc2 := 0) (ms2 := 0) F hxK hxZ hKL hnC hX hbl hbA hL3 hi hl G (C := fun w => LI Z (AD 0) (Hm + 240) w (frR N ns nm h)) eh ev (l_foresee (gC_root (by omega)) _ _ ⟨rfl, rfl⟩ (c_X6_foresee_0 Z l AD M (78 + ns) (by omega) ns nm h b2 b1 hS hM h14 hrel.2.2.2.1).toE) ⟨rfl, rfl⟩ ⟨Nat.le_of_ble_eq_true rfl, Nat.le_of_ble_eq_true rfl⟩ (c_X8_foresee_0 Z l AR N 16 (Nat.le_refl 16) ns nm h b2 b1 hrel.2.2.2.2.1) ⟨rfl, rfl⟩ ⟨Nat.le_of_ble_eq_true rfl, Nat.le_of_ble_eq_true rfl⟩ ⟨by omega, by omega⟩ (by
      unfold frR
      rw [paR_fr (by omega), beR_lo (by omega)]
      exact mu_s) (fun w hw => by
      obtain ⟨ws', g, hw', hg, rfl⟩ := hw
      exact ⟨_, g, rfl, fun _ => hg.trans (congrArg Int32.toInt64 (hrel.1)), AD, _, ns, nm, H0, hw', rfl, hrel.2.2.1, by omega⟩) (fun H locs w g ls hC G hl => W.widen (by omega) (by omega) (kk H locs w g _ ls hC G hl))
  · skip
    exact law_foresee (mc := 0) (ms := 0) (mc2 := 0) (ms2 := 0) F hxK hxZ hKL hnC hX hbl hbA hL3 hi hl G (C := fun w => LI Z (AD 0) (Hm + 240) w (frR N ns nm h)) eh ev (l_foresee (gC_root (by omega)) _ _ ⟨rfl, rfl⟩ (c_X6_foresee_1 Z l AD M (78 + ns) (by omega) ns nm h b2 b1 hS hM h14 hrel.2.2.2.1 hrel.2.2.2.2.2.1 hrel.2.2.2.2.2.2).toE) ⟨rfl, rfl⟩ ⟨Nat.le_of_ble_eq_true rfl, Nat.le_of_ble_eq_true rfl⟩ (c_X8_foresee_1 Z l AR N 16 (Nat.le_refl 16) ns nm h b2 b1 hrel.2.2.2.2.1) ⟨rfl, rfl⟩ ⟨Nat.le_of_ble_eq_true rfl, Nat.le_of_ble_eq_true rfl⟩ ⟨by omega, by omega⟩ (by
      unfold frR
      rw [paR_fr (by omega), beR_lo (by omega)]
      exact mu_s) (fun w hw => by
      obtain ⟨ws', g, hw', hg, rfl⟩ := hw
      exact ⟨_, g, rfl, fun _ => hg.trans (congrArg Int32.toInt64 (hrel.2.1)), AD, _, ns, nm, H0, hw', rfl, hrel.2.2.1, by omega⟩) (fun H locs w g ls hC G hl => W.widen (by omega) (by omega) (kk H locs w g _ ls hC G hl))
set_option maxRecDepth 100000 in
set_option maxHeartbeats 4000000 in
theorem do_mean (S : lawS p l s m meth c Z cL A b L xs) (hi : i + 6 < L) (hI : LI Z ax Hm ws1 N) (hHm : Hm ≤ 200000) (hl : lv_has ls 9 [(0, .ref b), (1, .ref ax), (2, .ref (AR 0)), (3, .ref o), (4, .int (nI i))]) (G : gG Z A s ((ws1 ++ [(o, outE cL f)]) ++ wR Z AR N 16) H locs) (hroom : cells + 2 ≤ room_1.cells ∧ slots + 12 ≤ room_1.slots) (kk : LK p l e s m below meth c Q Z cL A b i ax o AR (Hm + 240) (cells + 2) (slots + 12)) : W p l e room_1 s m #[Value.ref b] below meth c H locs cells slots Q (F0 m 1469 ls []) := by
  obtain ⟨F, hxK, hxZ, hKL, hnC, hX, hbl, hbA, hL3, hst⟩ := S
  obtain ⟨AD, M, ns, nm, H0, rfl, rfl, hr, hH⟩ := hI
  have hS := hr.2.1
  have hM := hr.2.2.1
  have hZ := hr.okZ
  have hN := hr.okN
  have hXR := hr.okX
  have hns := hS.2.1
  have hnm := hM.2
  have hd : mnF M nm = mnR (mu N 1 0 0 0) nm := mean_told hr.z
  exact law_mean F hl (gC_root (by omega)) G (c_X6_mean Z l AD M (78 + ns) (by omega) nm hM hZ) (by rw [hd]; exact c_X8_mean Z l AR N 16 (Nat.le_refl 16) ns nm hN hXR) ⟨rfl, rfl⟩ ⟨Nat.le_of_ble_eq_true rfl, Nat.le_of_ble_eq_true rfl⟩ ⟨rfl, rfl⟩ ⟨Nat.le_of_ble_eq_true rfl, Nat.le_of_ble_eq_true rfl⟩ ⟨by omega, by omega⟩ (fun H locs ls G hl => W.widen (by omega) (by omega) (kk H locs _ f _ ls ⟨AD, M, ns, nm, H0, rfl, rfl, hr.z, by omega⟩ G hl))
set_option maxRecDepth 100000 in
set_option maxHeartbeats 4000000 in
theorem do_digest (S : lawS p l s m meth c Z cL A b L xs) (hi : i + 6 < L) (hI : LI Z ax Hm ws1 N) (hHm : Hm ≤ 200000) (hl : lv_has ls 9 [(0, .ref b), (1, .ref ax), (2, .ref (AR 0)), (3, .ref o), (4, .int (nI i))]) (G : gG Z A s ((ws1 ++ [(o, outE cL f)]) ++ wR Z AR N 16) H locs) (hroom : cells + 2 ≤ room_1.cells ∧ slots + 12 ≤ room_1.slots) (kk : LK p l e s m below meth c Q Z cL A b i ax o AR (Hm + 240) (cells + 2) (slots + 12)) : W p l e room_1 s m #[Value.ref b] below meth c H locs cells slots Q (F0 m 1510 ls []) := by
  obtain ⟨F, hxK, hxZ, hKL, hnC, hX, hbl, hbA, hL3, hst⟩ := S
  obtain ⟨AD, M, ns, nm, H0, rfl, rfl, hr, hH⟩ := hI
  have hS := hr.2.1
  have hM := hr.2.2.1
  have hZ := hr.okZ
  have hN := hr.okN
  have hXR := hr.okX
  have hns := hS.2.1
  have hnm := hM.2
  have hd : digF M 0 ns nm = dgR (mu N 1 0 0 0) ns nm := digest_told hr.z (by omega)
  exact law_digest F hl (gC_root (by omega)) G (c_X6_digest Z l AD M (78 + ns) (by omega) ns nm hS hM hZ hr.okT) (by rw [hd]; exact c_X8_digest Z l AR N 16 (Nat.le_refl 16) ns nm hN hXR hr.okY) ⟨rfl, rfl⟩ ⟨Nat.le_of_ble_eq_true rfl, Nat.le_of_ble_eq_true rfl⟩ ⟨rfl, rfl⟩ ⟨Nat.le_of_ble_eq_true rfl, Nat.le_of_ble_eq_true rfl⟩ ⟨by omega, by omega⟩ (fun H locs ls G hl => W.widen (by omega) (by omega) (kk H locs _ f _ ls ⟨AD, M, ns, nm, H0, rfl, rfl, hr.z, by omega⟩ G hl))
end DO
