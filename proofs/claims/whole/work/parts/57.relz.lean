/-! a new member, a new station, a letter, hours: the relation stays -/
theorem begF_of {M : St} {j f a : Nat} {t x : Int32} (h : a ≠ j) : begF M j t x f a = M f a := by
  unfold begF
  rw [mu_ne (by omega), mu_ne (by omega), mu_ne (by omega), mu_ne (by omega), tuneF_of (Or.inr h)]
theorem begF_lo {M : St} {j f : Nat} {t x : Int32} (h : f < 8) : begF M j t x f = M f := funext fun a => by
  unfold begF
  rw [mu_ne (by omega), mu_ne (by omega), mu_ne (by omega), mu_ne (by omega), tuneF_of (by omega)]
theorem allF_s {M : St} {c n : Nat} : allF M c (n + 1) = allF M c n + M 15 (8 * c + n) 0 := rfl
theorem solF_s {M : St} {c k n : Nat} : solF M c k (n + 1) = solF M c k n + sumF M (8 * c + n) k (szN M (8 * c + n)) := rfl
theorem rel_join {M N : St} {ns nm H t a : Nat} (h : Rel M N ns nm H) (hnm : nm < 8) (h1 : 20 ≤ t) (h2 : t ≤ 200) (h3 : 1 ≤ a) (h4 : a ≤ 60) : Rel (begF (mu M 2 0 0 (nI (nm + 1))) (8 * 0 + nm) (nI t) (nI a)) (joR N nm (nI t) (nI a)) ns (nm + 1) H := by
  obtain ⟨⟨⟨⟨hn1, hn2⟩, hst, hme, hx, hy⟩, ⟨q, ⟨q1, q2, q3⟩, q4, q5⟩, hct1, hct2⟩, g2, g3, g4, ⟨g5, g6⟩, g7⟩ := h
  have hX : ∀ f a', a' ≠ nm → f ≠ 2 → begF (mu M 2 0 0 (nI (nm + 1))) (8 * 0 + nm) (nI t) (nI a) f a' = M f a' := fun f a' z1 z2 => by rw [begF_of (by omega), mu_ne (by omega)]
  have hXl : ∀ f, f < 8 → f ≠ 2 → begF (mu M 2 0 0 (nI (nm + 1))) (8 * 0 + nm) (nI t) (nI a) f = M f := fun f z1 z2 => by rw [begF_lo z1, mu_o (by omega)]
  have hX2 : begF (mu M 2 0 0 (nI (nm + 1))) (8 * 0 + nm) (nI t) (nI a) 2 0 0 = nI (nm + 1) := by rw [begF_lo (by omega)]; exact mu_s
  have hX17 : begF (mu M 2 0 0 (nI (nm + 1))) (8 * 0 + nm) (nI t) (nI a) 17 = M 17 := funext fun b => by
    unfold begF
    rw [mu_ne (by omega), mu_ne (by omega), mu_ne (by omega), mu_ne (by omega), tuneF_of (by omega), mu_ne (by omega)]
  have hX15 : begF (mu M 2 0 0 (nI (nm + 1))) (8 * 0 + nm) (nI t) (nI a) 15 (8 * 0 + nm) 0 = 0 := by
    unfold begF; exact mu_s
  have hY : ∀ f, f ≠ 1 → f ≠ 3 → f ≠ 4 → f ≠ 6 → f ≠ 7 → f ≠ 12 → joR N nm (nI t) (nI a) f = N f := fun f z1 z2 z3 z4 z5 z6 => by
    unfold joR
    rw [mu_o z2, mu_o z6, mu_o z5, mu_o z4, mu_o z3, mu_o z1]
  have hYj : ∀ f b, f ≠ 1 → f ≠ 3 → b ≠ nm → joR N nm (nI t) (nI a) f 0 b = N f 0 b := fun f b z1 z2 z3 => by
    unfold joR
    rw [mu_o z2, mu_of (by omega), mu_of (by omega), mu_of (by omega), mu_of (by omega), mu_o z1]
  have y4 : joR N nm (nI t) (nI a) 4 0 nm = nI t := by
    unfold joR; rw [mu_o (by omega), mu_o (by omega), mu_o (by omega), mu_o (by omega), mu_s]
  have y6 : joR N nm (nI t) (nI a) 6 0 nm = nI a := by
    unfold joR; rw [mu_o (by omega), mu_o (by omega), mu_o (by omega), mu_s]
  have y7 : joR N nm (nI t) (nI a) 7 0 nm = 1 := by
    unfold joR; rw [mu_o (by omega), mu_o (by omega), mu_s]
  have y12 : joR N nm (nI t) (nI a) 12 0 nm = 9 := by
    unfold joR; rw [mu_o (by omega), mu_s]
  have y3 : joR N nm (nI t) (nI a) 3 0 0 = nI (nm + 1) := by
    unfold joR; rw [mu_s]
  have y5 := hY 5 (by omega) (by omega) (by omega) (by omega) (by omega) (by omega)
  have y13 := hY 13 (by omega) (by omega) (by omega) (by omega) (by omega) (by omega)
  obtain ⟨w5, w13⟩ := g7 nm (Nat.le_refl nm) (by omega)
  have hnew : meOk (begF (mu M 2 0 0 (nI (nm + 1))) (8 * 0 + nm) (nI t) (nI a)) (joR N nm (nI t) (nI a)) 0 nm ns := by
    refine ⟨t, 0, 9, a, 0, ⟨⟨h1, h2, by omega, by omega, h4⟩, ?_, ?_, ?_, ?_, y6⟩, ⟨?_, y4, ?_, by rw [y5]; exact w5, y12, ?_, Or.inr y7⟩, ⟨by omega, hX15, by rw [y13]; exact w13⟩, fun k hk => absurd hk (by omega)⟩
    · unfold begF tuneF
      rw [mu_o (by omega), mu_o (by omega), mu_o (by omega), mu_o (by omega), mu_o (by omega), mu_s]
      exact tune_se (d := 0) h1 h2 (by omega)
    · unfold begF tuneF
      rw [mu_o (by omega), mu_o (by omega), mu_o (by omega), mu_o (by omega), mu_s]
      exact wid_nat h2
    · unfold begF
      rw [mu_o (by omega), mu_o (by omega), mu_o (by omega), mu_s]
    · unfold begF
      rw [mu_o (by omega), mu_o (by omega), mu_s]; rfl
    · unfold begF tuneF
      rw [mu_o (by omega), mu_o (by omega), mu_o (by omega), mu_o (by omega), mu_o (by omega), mu_o (by omega), mu_o (by omega), mu_s]
    · unfold begF tuneF
      rw [mu_o (by omega), mu_o (by omega), mu_o (by omega), mu_o (by omega), mu_o (by omega), mu_o (by omega), mu_s]; rfl
    · rw [y7]
      unfold begF
      rw [mu_o (by omega), mu_s]
  generalize begF (mu M 2 0 0 (nI (nm + 1))) (8 * 0 + nm) (nI t) (nI a) = X at *
  generalize joR N nm (nI t) (nI a) = Y at *
  refine ⟨⟨⟨⟨hn1, by omega⟩, fun k hk => stOk_c (hst k hk) (hXl 0 (by omega) (by omega)) (hY 0 (by omega) (by omega) (by omega) (by omega) (by omega) (by omega)), fun i hi => ?_, by rw [hXl 3 (by omega) (by omega)]; exact hx, by rw [hY 8 (by omega) (by omega) (by omega) (by omega) (by omega) (by omega)]; exact hy⟩, ⟨q, ⟨q1, by rw [hX 15 _ (by omega) (by omega)]; exact q2, by rw [hY 9 (by omega) (by omega) (by omega) (by omega) (by omega) (by omega)]; exact q3⟩, fun k hk => ?_, fun k1 k2 z1 z2 => by rw [hY 15 (by omega) (by omega) (by omega) (by omega) (by omega) (by omega)]; exact q5 k1 k2 z1 z2⟩, ?_, ?_⟩, ⟨by rw [hXl 1 (by omega) (by omega)]; exact g2.1, g2.2.1, g2.2.2.1, fun k hk => by rw [hX17]; exact g2.2.2.2 k hk⟩, ⟨hX2, by omega⟩, flK_c g4 hX17, ⟨by rw [hY 2 (by omega) (by omega) (by omega) (by omega) (by omega) (by omega)]; exact g5, y3⟩, fun i z1 z2 => by rw [y5, y13]; exact g7 i (by omega) z2⟩
  · by_cases hi2 : i = nm
    · subst hi2; exact hnew
    · exact meOk_c (hme i (by omega)) (fun f z1 z2 => hX f _ (by omega) (by omega)) (hYj 4 i (by omega) (by omega) hi2) (hYj 5 i (by omega) (by omega) hi2) (hYj 6 i (by omega) (by omega) hi2) (hYj 7 i (by omega) (by omega) hi2) (hYj 12 i (by omega) (by omega) hi2) (hYj 13 i (by omega) (by omega) hi2) (fun b _ _ => by rw [hY 14 (by omega) (by omega) (by omega) (by omega) (by omega) (by omega)])
  · obtain ⟨m, l, ⟨b1, b2⟩, b3, b4, b5, b6, b7⟩ := q4 k hk
    have e15 := hY 15 (by omega) (by omega) (by omega) (by omega) (by omega) (by omega)
    refine ⟨m, l, ⟨by omega, ?_⟩, by rw [hX 16 _ (by omega) (by omega)]; exact b3, by rw [hX 16 _ (by omega) (by omega)]; exact b4, by rw [e15]; exact b5, by rw [hX 16 _ (by omega) (by omega), e15]; exact b6, by rw [hX 16 _ (by omega) (by omega)]; exact b7⟩
    unfold szN
    rw [hX 15 _ (by omega) (by omega)]
    exact b2
  · rw [hY 10 (by omega) (by omega) (by omega) (by omega) (by omega) (by omega), hct1, allF_s, hX15, Int32.add_zero]
    exact (allF_c nm (fun i hi => by rw [hX 15 _ (by omega) (by omega)])).symm
  · rw [hY 11 (by omega) (by omega) (by omega) (by omega) (by omega) (by omega), hct2, solF_s]
    have hsz : szN X (8 * 0 + nm) = 0 := nI_cl (n := 0) hX15 (by omega)
    rw [hsz, show sumF X (8 * 0 + nm) 3 0 = 0 from rfl, Int32.add_zero]
    exact (solF_c nm (fun i hi => (growP_0 (hX 15 _ (by omega) (by omega)) (hX 16 _ (by omega) (by omega))).2.2)).symm
theorem stM_fr {M : St} {i f a : Nat} {x0 x1 x2 x3 x4 x5 : Int32} (h : ¬ (f = 0 ∧ a = i)) : stM M i x0 x1 x2 x3 x4 x5 f a = M f a := by
  unfold stM
  rw [mu_ne h, mu_ne h, mu_ne h, mu_ne h, mu_ne h, mu_ne h]
theorem rel_add {M N : St} {ns nm H x0 x1 x2 x3 x4 x5 : Nat} (h : Rel M N ns nm H) (hns : ns < 12) (b0 : x0 ≤ 3000) (b1 : x1 ≤ 100) (b2a : 1 ≤ x2) (b2 : x2 ≤ 50) (b3 : x3 < 24) (b4 : x4 ≤ 24) (b5 : x5 < 12) : Rel (mu (mu (stM M ns (nI x0) (nI x1) (nI x2) (nI x3) (nI x4) (nI x5)) 17 0 ns 1) 1 0 0 (nI (ns + 1))) (mu (adA (mu N 1 0 0 0) ns (own6 (nI x0) (nI x1) (nI x2) (nI x3) (nI x4) (nI x5))) 2 0 0 (nI (ns + 1))) (ns + 1) nm H := by
  obtain ⟨⟨⟨⟨hn1, hn2⟩, hst, hme, hx, hy⟩, ⟨q, hl⟩, hct⟩, g2, g3, g4, ⟨g5, g6⟩, g7⟩ := h
  have hX : ∀ f a, f ≠ 0 → f ≠ 1 → f ≠ 17 → (mu (mu (stM M ns (nI x0) (nI x1) (nI x2) (nI x3) (nI x4) (nI x5)) 17 0 ns 1) 1 0 0 (nI (ns + 1))) f a = M f a := fun f a z1 z2 z3 => by rw [mu_o z2, mu_o z3, stM_fr (by omega)]
  have hX0 : ∀ k, k ≠ ns → (mu (mu (stM M ns (nI x0) (nI x1) (nI x2) (nI x3) (nI x4) (nI x5)) 17 0 ns 1) 1 0 0 (nI (ns + 1))) 0 k = M 0 k := fun k hk => by rw [mu_o (by omega), mu_o (by omega), stM_fr (by omega)]
  have hXn : ∀ v, v < 6 → (mu (mu (stM M ns (nI x0) (nI x1) (nI x2) (nI x3) (nI x4) (nI x5)) 17 0 ns 1) 1 0 0 (nI (ns + 1))) 0 ns v = own6 (nI x0) (nI x1) (nI x2) (nI x3) (nI x4) (nI x5) v := fun v hv => by
    rw [mu_o (by omega), mu_o (by omega)]
    rcases (show v = 0 ∨ v = 1 ∨ v = 2 ∨ v = 3 ∨ v = 4 ∨ v = 5 by omega) with rfl | rfl | rfl | rfl | rfl | rfl <;> simp [stM, mu, own6, upd]
  have hX17 : ∀ k, (mu (mu (stM M ns (nI x0) (nI x1) (nI x2) (nI x3) (nI x4) (nI x5)) 17 0 ns 1) 1 0 0 (nI (ns + 1))) 17 0 k = if k = ns then 1 else M 17 0 k := fun k => by
    rw [mu_o (by omega)]
    by_cases hk : k = ns
    · subst hk; rw [if_pos rfl, mu_s]
    · rw [if_neg hk, mu_j hk, stM_fr (by omega)]
  have hX171 : (mu (mu (stM M ns (nI x0) (nI x1) (nI x2) (nI x3) (nI x4) (nI x5)) 17 0 ns 1) 1 0 0 (nI (ns + 1))) 17 1 = M 17 1 := by rw [mu_o (by omega), mu_ne (by omega), stM_fr (by omega)]
  have hX1 : (mu (mu (stM M ns (nI x0) (nI x1) (nI x2) (nI x3) (nI x4) (nI x5)) 17 0 ns 1) 1 0 0 (nI (ns + 1))) 1 0 0 = nI (ns + 1) := mu_s
  have hY : ∀ f, f ≠ 0 → f ≠ 1 → f ≠ 2 → (mu (adA (mu N 1 0 0 0) ns (own6 (nI x0) (nI x1) (nI x2) (nI x3) (nI x4) (nI x5))) 2 0 0 (nI (ns + 1))) f = N f := fun f z0 z1 z2 => by
    rw [mu_o z2]
    unfold adA
    rw [if_neg z0, mu_o z1]
  have hY0 : ∀ b, (mu (adA (mu N 1 0 0 0) ns (own6 (nI x0) (nI x1) (nI x2) (nI x3) (nI x4) (nI x5))) 2 0 0 (nI (ns + 1))) 0 0 b = if 6 * ns ≤ b ∧ b < 6 * ns + 6 then own6 (nI x0) (nI x1) (nI x2) (nI x3) (nI x4) (nI x5) (b - 6 * ns) else N 0 0 b := fun b => by
    rw [mu_o (by omega), adA_s]
    unfold va_cpy
    rw [mu_o (show (0 : Nat) ≠ 1 by omega)]
    by_cases z : 6 * ns ≤ b ∧ b < 6 * ns + 6
    · rw [if_pos z, if_pos z, Nat.zero_add]
    · rw [if_neg z, if_neg z]
  have hY2 : (mu (adA (mu N 1 0 0 0) ns (own6 (nI x0) (nI x1) (nI x2) (nI x3) (nI x4) (nI x5))) 2 0 0 (nI (ns + 1))) 2 0 0 = nI (ns + 1) := mu_s
  generalize (mu (mu (stM M ns (nI x0) (nI x1) (nI x2) (nI x3) (nI x4) (nI x5)) 17 0 ns 1) 1 0 0 (nI (ns + 1))) = X at *
  generalize (mu (adA (mu N 1 0 0 0) ns (own6 (nI x0) (nI x1) (nI x2) (nI x3) (nI x4) (nI x5))) 2 0 0 (nI (ns + 1))) = Y at *
  refine ⟨⟨⟨⟨by omega, hn2⟩, fun k hk => ?_, fun i hi => ?_, by rw [hX 3 _ (by omega) (by omega) (by omega)]; exact hx, by rw [hY 8 (by omega) (by omega) (by omega)]; exact hy⟩, ⟨q, le_grow hl (fun m hm => growP_0 (hX 15 _ (by omega) (by omega) (by omega)) (hX 16 _ (by omega) (by omega) (by omega))) (hX 15 _ (by omega) (by omega) (by omega)) (hX 16 _ (by omega) (by omega) (by omega)) (by rw [hY 9 (by omega) (by omega) (by omega)]) (hY 15 (by omega) (by omega) (by omega) ▸ rfl)⟩, ct_c hct (fun i hi => hX 15 _ (by omega) (by omega) (by omega)) (fun i hi => hX 16 _ (by omega) (by omega) (by omega)) (by rw [hY 10 (by omega) (by omega) (by omega)]) (by rw [hY 11 (by omega) (by omega) (by omega)])⟩, ⟨hX1, by omega, by omega, fun k hk => ?_⟩, ⟨by rw [hX 2 _ (by omega) (by omega) (by omega)]; exact g3.1, g3.2⟩, fun c i hc hz => ?_, ⟨hY2, by rw [hY 3 (by omega) (by omega) (by omega)]; exact g6⟩, fun i z1 z2 => by rw [hY 5 (by omega) (by omega) (by omega), hY 13 (by omega) (by omega) (by omega)]; exact g7 i z1 z2⟩
  · by_cases hk2 : k = ns
    · subst hk2
      refine ⟨x0, x1, x2, x3, x4, x5, ⟨b0, b1, b2a, b2, b3, b4, b5⟩, ⟨?_, ?_, ?_, ?_, ?_, ?_⟩, ⟨?_, ?_, ?_, ?_, ?_, ?_⟩⟩
      · rw [hXn 0 (by omega)]; rfl
      · rw [hXn 1 (by omega)]; rfl
      · rw [hXn 2 (by omega)]; rfl
      · rw [hXn 3 (by omega)]; rfl
      · rw [hXn 4 (by omega)]; rfl
      · rw [hXn 5 (by omega)]; rfl
      · rw [hY0, if_pos (by omega), show 6 * k - 6 * k = 0 by omega]; rfl
      · rw [hY0, if_pos (by omega), show 6 * k + 1 - 6 * k = 1 by omega]; rfl
      · rw [hY0, if_pos (by omega), show 6 * k + 2 - 6 * k = 2 by omega]; rfl
      · rw [hY0, if_pos (by omega), show 6 * k + 3 - 6 * k = 3 by omega]; rfl
      · rw [hY0, if_pos (by omega), show 6 * k + 4 - 6 * k = 4 by omega]; rfl
      · rw [hY0, if_pos (by omega), show 6 * k + 5 - 6 * k = 5 by omega]; rfl
    · obtain ⟨fr, pw, fa, fm, ho, ph, p1, ⟨m0, m1, m2, m3, m4, m5⟩, ⟨n0, n1, n2, n3, n4, n5⟩⟩ := hst k (by omega)
      refine ⟨fr, pw, fa, fm, ho, ph, p1, ?_, ⟨?_, ?_, ?_, ?_, ?_, ?_⟩⟩
      · rw [hX0 k hk2]; exact ⟨m0, m1, m2, m3, m4, m5⟩
      · rw [hY0, if_neg (by omega)]; exact n0
      · rw [hY0, if_neg (by omega)]; exact n1
      · rw [hY0, if_neg (by omega)]; exact n2
      · rw [hY0, if_neg (by omega)]; exact n3
      · rw [hY0, if_neg (by omega)]; exact n4
      · rw [hY0, if_neg (by omega)]; exact n5
  · obtain ⟨t, d, cr, a, L, p1, p2, p3, pl⟩ := meOk_c (M' := X) (N' := Y) (hme i hi) (fun f z1 z2 => hX f _ (by omega) (by omega) (by omega)) (by rw [hY 4 (by omega) (by omega) (by omega)]) (by rw [hY 5 (by omega) (by omega) (by omega)]) (by rw [hY 6 (by omega) (by omega) (by omega)]) (by rw [hY 7 (by omega) (by omega) (by omega)]) (by rw [hY 12 (by omega) (by omega) (by omega)]) (by rw [hY 13 (by omega) (by omega) (by omega)]) (fun b _ _ => by rw [hY 14 (by omega) (by omega) (by omega)])
    refine ⟨t, d, cr, a, L, p1, p2, p3, fun k hk => ?_⟩
    obtain ⟨k1, ⟨s, k2, k3⟩, k4⟩ := pl k hk
    exact ⟨k1, ⟨s, by omega, k3⟩, k4⟩
  · rw [hX17]
    by_cases z : k = ns
    · rw [if_pos z]; decide
    · rw [if_neg z]; exact g2.2.2.2 k (by omega)
  · rcases (show c = 0 ∨ c = 1 by omega) with rfl | rfl
    · rw [hX17] at hz
      by_cases z : i = ns
      · omega
      · rw [if_neg z] at hz
        have := g4 0 i hc hz
        omega
    · rw [hX171] at hz
      have := g4 1 i hc hz
      omega
