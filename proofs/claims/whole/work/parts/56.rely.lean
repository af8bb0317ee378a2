/-! the class's state against the reference's -/
def Rel (M N : St) (ns nm H : Nat) : Prop := hrI M N 0 ns nm H ∧ okS M 0 ns (78 + ns) ∧ okM M 0 nm ∧ flK M (78 + ns) ∧ (N 2 0 0 = nI ns ∧ N 3 0 0 = nI nm) ∧ ∀ i, nm ≤ i → i < 8 → N 5 0 i = 0 ∧ N 13 0 i = 0
theorem okN_hr {M N : St} {c ns nm H : Nat} (h : clOk M N c ns nm H) (h2 : N 2 0 0 = nI ns) (h3 : N 3 0 0 = nI nm) : okN N ns nm := by
  obtain ⟨⟨hn1, hn2⟩, hst, hme, -⟩ := h
  refine ⟨h2, hn1, h3, hn2, fun k hk => ?_, fun i hi => ?_⟩
  · obtain ⟨fr, pw, fa, fm, ho, ph, ⟨b1, b2, b3, b4, b5, b6, b7⟩, -, ⟨n0, n1, n2, n3, n4, n5⟩⟩ := hst k hk
    rw [n2, show (10 * nI fa : Int32) = nI (10 * fa) from pk_mul 10 fa]
    intro z
    have := nI_inj (a := 10 * fa) (b := 0) (by omega) (by omega) z
    omega
  · obtain ⟨t, d, cr, a, L, ⟨⟨b1, b2, b3, b4, b5⟩, -⟩, ⟨m1, m2, m3, m4, -⟩, -⟩ := hme i hi
    rw [m2, m4, nI_add]
    intro z
    have := nI_inj (a := t + d) (b := 0) (by omega) (by omega) z
    omega
theorem okX_hr {M N : St} {c ns nm H : Nat} (h : clOk M N c ns nm H) : okX N c nm := fun i hi => by
  obtain ⟨z1, z2, z3, z4⟩ := meOk_sz (h.2.2.1 i hi)
  exact ⟨by rw [z4]; exact z3, by rw [z4]; exact z2⟩
theorem Rel.okN {M N : St} {ns nm H : Nat} (h : Rel M N ns nm H) : okN N ns nm := okN_hr h.1.1 h.2.2.2.2.1.1 h.2.2.2.2.1.2
theorem Rel.okX {M N : St} {ns nm H : Nat} (h : Rel M N ns nm H) : okX N 0 nm := okX_hr h.1.1
theorem Rel.okZ {M N : St} {ns nm H : Nat} (h : Rel M N ns nm H) : okZ M 0 nm := clOk_Z h.1.1
theorem Rel.okT {M N : St} {ns nm H : Nat} (h : Rel M N ns nm H) : okT M 0 nm := by
  obtain ⟨q, hl⟩ := h.1.2.1
  exact (leOk_T h.1.1 hl).1
theorem Rel.okY {M N : St} {ns nm H : Nat} (h : Rel M N ns nm H) : okY N 0 := by
  obtain ⟨q, hl⟩ := h.1.2.1
  exact (leOk_T h.1.1 hl).2.1
/-- the reference's answer code is no part of it -/
theorem Rel.thr {M N N' : St} {ns nm H : Nat} (h : Rel M N ns nm H) (e : ∀ f, f ≠ 1 → N' f = N f) : Rel M N' ns nm H := by
  obtain ⟨h1, h2, h3, h4, ⟨h5, h6⟩, h7⟩ := h
  refine ⟨hrI_x h1 rfl rfl (fun _ _ _ _ _ => rfl) (fun _ _ _ _ => rfl) rfl (fun _ _ => rfl) (e 0 (by omega)) (fun f i a1 a2 _ => by rw [e f (by omega)]) (fun f a1 a2 => by rw [e f (by omega)]) (fun i _ => by rw [e 12 (by omega)]) (fun i _ => by rw [e 13 (by omega)]) (fun b _ => by rw [e 14 (by omega)]) (fun b _ => by rw [e 15 (by omega)]), h2, h3, h4, ⟨by rw [e 2 (by omega)]; exact h5, by rw [e 3 (by omega)]; exact h6⟩, fun i a1 a2 => ?_⟩
  rw [e 5 (by omega), e 13 (by omega)]
  exact h7 i a1 a2
theorem Rel.z {M N : St} {ns nm H : Nat} {x : Int32} (h : Rel M N ns nm H) : Rel M (mu N 1 0 0 x) ns nm H := h.thr (fun f hf => mu_o hf)
/-- what is reckoned with is no part of it -/
theorem Rel.scr {M N M' : St} {ns nm H : Nat} (h : Rel M N ns nm H) (h0 : M' 0 = M 0) (h1 : M' 1 0 0 = M 1 0 0) (h2 : M' 2 0 0 = M 2 0 0) (h3 : M' 3 0 0 = M 3 0 0) (h17 : M' 17 0 = M 17 0) (hf : flK M' (78 + ns)) (h8 : ∀ f a, 8 ≤ f → f ≤ 16 → a < 8 → M' f a = M f a) (hL : M' 15 16 = M 15 16) (hT : M' 16 16 = M 16 16) : Rel M' N ns nm H := by
  obtain ⟨g1, g2, g3, g4, g5, g7⟩ := h
  have hn := g1.1.1
  refine ⟨hrI_x g1 h0 h3 (fun i hi f a1 a2 => by rw [h8 f (8 * 0 + i) a1 (by omega) (by omega)]) (fun i hi b _ => by rw [h8 16 (8 * 0 + i) (by omega) (by omega) (by omega)]) (by rw [show 16 + 0 = 16 from rfl, hL]) (fun b _ => by rw [show 16 + 0 = 16 from rfl, hT]) rfl (fun _ _ _ _ _ => rfl) (fun _ _ _ => rfl) (fun _ _ => rfl) (fun _ _ => rfl) (fun _ _ => rfl) (fun _ _ => rfl), ⟨h1.trans g2.1, g2.2.1, g2.2.2.1, fun k hk => by rw [h17]; exact g2.2.2.2 k hk⟩, ⟨h2.trans g3.1, g3.2⟩, hf, g5, g7⟩
theorem flK_c {M M' : St} {n : Nat} (h : flK M n) (e : M' 17 = M 17) : flK M' n := by
  intro c i hc hz
  rw [e] at hz
  exact h c i hc hz
/-- a number within bounds -/
theorem in_nat {x : Int32} {lo hi : Nat} (hl : lo < 2 ^ 30) (hh : hi < 2 ^ 30) (h1 : ¬ x < nI lo) (h2 : ¬ nI hi < x) : ∃ n, x = nI n ∧ lo ≤ n ∧ n ≤ hi := by
  have a1 : ¬ x.toInt < (nI lo).toInt := fun z => h1 (i_lt.mpr z)
  have a2 : ¬ (nI hi).toInt < x.toInt := fun z => h2 (i_lt.mpr z)
  rw [nI_toInt (by omega)] at a1 a2
  refine ⟨x.toInt.toNat, Int32.toInt_inj.mp ?_, by omega, by omega⟩
  rw [nI_toInt (by omega)]
  omega
/-- a member's numbers change, its log doesn't -/
theorem hr_mem {M N M' N' : St} {ns nm H i : Nat} (h : hrI M N 0 ns nm H) (hi : i < nm) (hM : ∀ f a, f < 8 ∨ 14 < f ∨ a ≠ i → M' f a = M f a) (hN : ∀ f, f ≠ 1 → f < 4 ∨ 7 < f → f ≠ 12 → N' f = N f) (hNj : ∀ f j, 4 ≤ f → f ≤ 7 → j ≠ i → N' f 0 j = N f 0 j) (h12 : ∀ j, j ≠ i → N' 12 0 j = N 12 0 j) (hme : meOk M' N' 0 i ns) : hrI M' N' 0 ns nm H := by
  obtain ⟨⟨hn1, hst, hm, hx, hy⟩, ⟨q, hl⟩, hct⟩ := h
  refine ⟨⟨hn1, fun k hk => stOk_c (hst k hk) (funext fun a => hM 0 a (by omega)) (hN 0 (by omega) (by omega) (by omega)), fun j hj => ?_, by rw [hM 3 _ (by omega)]; exact hx, by rw [hN 8 (by omega) (by omega) (by omega)]; exact hy⟩, ⟨q, le_grow hl (fun m hm => growP_0 (hM 15 _ (by omega)) (hM 16 _ (by omega))) (hM 15 _ (by omega)) (hM 16 _ (by omega)) (by rw [hN 9 (by omega) (by omega) (by omega)]) (by rw [hN 15 (by omega) (by omega) (by omega)])⟩, ct_c hct (fun j hj => hM 15 _ (by omega)) (fun j hj => hM 16 _ (by omega)) (by rw [hN 10 (by omega) (by omega) (by omega)]) (by rw [hN 11 (by omega) (by omega) (by omega)])⟩
  by_cases hji : j = i
  · subst hji; exact hme
  · exact meOk_c (hm j hj) (fun f a1 a2 => hM f _ (by omega)) (hNj 4 j (by omega) (by omega) hji) (hNj 5 j (by omega) (by omega) hji) (hNj 6 j (by omega) (by omega) hji) (hNj 7 j (by omega) (by omega) hji) (h12 j hji) (by rw [hN 13 (by omega) (by omega) (by omega)]) (fun b _ _ => by rw [hN 14 (by omega) (by omega) (by omega)])
theorem Rel.mem {M N M' N' : St} {ns nm H i : Nat} (h : Rel M N ns nm H) (hi : i < nm) (hM : ∀ f a, f < 8 ∨ 14 < f ∨ a ≠ i → M' f a = M f a) (hN : ∀ f, f ≠ 1 → f < 4 ∨ 7 < f → f ≠ 12 → N' f = N f) (hNj : ∀ f j, 4 ≤ f → f ≤ 7 → j ≠ i → N' f 0 j = N f 0 j) (h12 : ∀ j, j ≠ i → N' 12 0 j = N 12 0 j) (hme : meOk M' N' 0 i ns) : Rel M' N' ns nm H := by
  obtain ⟨g1, g2, g3, g4, ⟨g5, g6⟩, g7⟩ := h
  refine ⟨hr_mem g1 hi hM hN hNj h12 hme, ⟨by rw [hM 1 _ (by omega)]; exact g2.1, g2.2.1, g2.2.2.1, fun k hk => by rw [hM 17 _ (by omega)]; exact g2.2.2.2 k hk⟩, ⟨by rw [hM 2 _ (by omega)]; exact g3.1, g3.2⟩, flK_c g4 (funext fun a => hM 17 a (by omega)), ⟨by rw [hN 2 (by omega) (by omega) (by omega)]; exact g5, by rw [hN 3 (by omega) (by omega) (by omega)]; exact g6⟩, fun j a1 a2 => ?_⟩
  rw [hNj 5 j (by omega) (by omega) (by omega), hN 13 (by omega) (by omega) (by omega)]
  exact g7 j a1 a2
theorem tuneF_of {M : St} {j f a : Nat} {t d : Int32} (h : (f ≠ 8 ∧ f ≠ 9 ∧ f ≠ 12 ∧ f ≠ 13) ∨ a ≠ j) : tuneF M j t d f a = M f a := by
  unfold tuneF
  rw [mu_ne (by omega), mu_ne (by omega), mu_ne (by omega), mu_ne (by omega)]
theorem tune_se {t d : Nat} (h1 : 20 ≤ t) (h2 : t ≤ 200) (h3 : d ≤ 100) : quoF 100000 (nI t + nI d) = nI (100000 / (t + d)) := by
  unfold quoF
  rw [if_neg, tun_nat h1 h2 h3]
  rw [nI_add]
  intro z
  have := nI_inj (a := t + d) (b := 0) (by omega) (by omega) z
  omega
/-- a set is tuned anew -/
theorem meOk_tune {M N N' : St} {c i ns t d : Nat} (h : meOk M N c i ns) (h1 : 20 ≤ t) (h2 : t ≤ 200) (h3 : d ≤ 100) (n4 : N' 4 0 i = nI t) (n5 : N' 5 0 i = nI d) (n6 : N' 6 0 i = N 6 0 i) (n7 : N' 7 0 i = N 7 0 i) (n12 : N' 12 c i = N 12 c i) (n13 : N' 13 c i = N 13 c i) (n14 : N' 14 c = N 14 c) : meOk (tuneF M (8 * c + i) (nI t) (nI d)) N' c i ns := by
  obtain ⟨t0, d0, cr, a, L, ⟨⟨b1, b2, b3, b4, b5⟩, s12, s13, s10, s11, sN⟩, ⟨m1, m2, m3, m4, m5, m6, m7⟩, ⟨l1, l2, l3⟩, hl⟩ := h
  have hX : ∀ f, f ≠ 8 ∧ f ≠ 9 ∧ f ≠ 12 ∧ f ≠ 13 → tuneF M (8 * c + i) (nI t) (nI d) f (8 * c + i) = M f (8 * c + i) := fun f hf => tuneF_of (Or.inl hf)
  refine ⟨t, d, cr, a, L, ⟨⟨h1, h2, h3, b4, b5⟩, ?_, ?_, ?_, ?_, ?_⟩, ⟨?_, ?_, ?_, ?_, ?_, ?_, ?_⟩, ⟨l1, ?_, ?_⟩, fun k hk => ?_⟩
  · unfold tuneF; rw [mu_o (by omega), mu_s]; exact tune_se h1 h2 h3
  · unfold tuneF; rw [mu_s]; exact wid_nat h2
  · rw [hX 10 (by omega)]; exact s10
  · rw [hX 11 (by omega)]; exact s11
  · rw [n6]; exact sN
  · unfold tuneF; rw [mu_o (by omega), mu_o (by omega), mu_o (by omega), mu_s]
  · exact n4
  · unfold tuneF; rw [mu_o (by omega), mu_o (by omega), mu_s]
  · exact n5
  · rw [n12]; exact m5
  · rw [hX 14 (by omega), n7]; exact m6
  · rw [n7]; exact m7
  · rw [hX 15 (by omega)]; exact l2
  · rw [n13]; exact l3
  · rw [hX 16 (by omega), n14]; exact hl k hk
/-- turn -/
theorem rel_turn {M N : St} {ns nm H i d : Nat} (h : Rel M N ns nm H) (hi : i < nm) (hd : d ≤ 100) : M 9 (8 * 0 + i) 0 = N 5 0 i ∧ Rel (turF M i (nI d)) (mu (mu N 1 0 0 0) 5 0 i (nI d)) ns nm H := by
  have hme := h.1.1.2.2.1 i hi
  obtain ⟨t0, d0, cr, a, L, ⟨⟨b1, b2, -⟩, -⟩, ⟨m1, m2, m3, m4, -⟩, -⟩ := id hme
  refine ⟨by rw [m3, m4], ?_⟩
  have e : turF M i (nI d) = tuneF M (8 * 0 + i) (nI t0) (nI d) := by unfold turF; rw [m1]
  rw [e]
  refine h.z.mem hi (fun f a hf => tuneF_of (by omega)) (fun f f1 f2 f3 => mu_o (by omega)) (fun f j f1 f2 f3 => mu_of (by omega)) (fun j hj => mu_of (by omega)) ?_
  refine meOk_tune (N := N) hme b1 b2 hd ?_ mu_s ?_ ?_ ?_ ?_ ?_
  · rw [mu_o (by omega), mu_o (by omega)]; exact m2
  · rw [mu_o (by omega), mu_o (by omega)]
  · rw [mu_o (by omega), mu_o (by omega)]
  · rw [mu_o (by omega), mu_o (by omega)]
  · rw [mu_o (by omega), mu_o (by omega)]
  · rw [mu_o (by omega), mu_o (by omega)]
theorem rel_wind {M N : St} {ns nm H i t : Nat} (h : Rel M N ns nm H) (hi : i < nm) (h1 : 20 ≤ t) (h2 : t ≤ 200) : M 8 (8 * 0 + i) 0 = N 4 0 i ∧ Rel (winF M i (nI t)) (mu (mu N 1 0 0 0) 4 0 i (nI t)) ns nm H := by
  have hme := h.1.1.2.2.1 i hi
  obtain ⟨t0, d0, cr, a, L, ⟨⟨b1, b2, b3, -⟩, -⟩, ⟨m1, m2, m3, m4, -⟩, -⟩ := id hme
  refine ⟨by rw [m1, m2], ?_⟩
  have e : winF M i (nI t) = tuneF M (8 * 0 + i) (nI t) (nI d0) := by unfold winF; rw [m3]
  rw [e]
  refine h.z.mem hi (fun f a hf => tuneF_of (by omega)) (fun f f1 f2 f3 => mu_o (by omega)) (fun f j f1 f2 f3 => mu_of (by omega)) (fun j hj => mu_of (by omega)) ?_
  refine meOk_tune (N := N) hme h1 h2 b3 mu_s ?_ ?_ ?_ ?_ ?_ ?_
  · rw [mu_o (by omega), mu_o (by omega)]; exact m4
  · rw [mu_o (by omega), mu_o (by omega)]
  · rw [mu_o (by omega), mu_o (by omega)]
  · rw [mu_o (by omega), mu_o (by omega)]
  · rw [mu_o (by omega), mu_o (by omega)]
  · rw [mu_o (by omega), mu_o (by omega)]
theorem rel_listen {M N : St} {ns nm H i : Nat} {b : Int32} (h : Rel M N ns nm H) (hi : i < nm) (hb : b = 0 ∨ b = 1) : M 14 (8 * 0 + i) 0 = N 7 0 i ∧ (N 7 0 i = 0 ∨ N 7 0 i = 1) ∧ Rel (mu M 14 (8 * 0 + i) 0 b) (mu (mu N 1 0 0 0) 7 0 i b) ns nm H := by
  have hme := h.1.1.2.2.1 i hi
  obtain ⟨t, d, cr, a, L, ⟨hb1, s12, s13, s10, s11, sN⟩, ⟨m1, m2, m3, m4, m5, m6, m7⟩, ⟨l1, l2, l3⟩, hl⟩ := id hme
  refine ⟨m6, m7, ?_⟩
  refine h.z.mem hi (fun f a hf => mu_ne (by omega)) (fun f f1 f2 f3 => mu_o (by omega)) (fun f j f1 f2 f3 => mu_of (by omega)) (fun j hj => mu_of (by omega)) ?_
  refine ⟨t, d, cr, a, L, ⟨hb1, ?_, ?_, ?_, ?_, ?_⟩, ⟨?_, ?_, ?_, ?_, ?_, ?_, ?_⟩, ⟨l1, ?_, ?_⟩, fun k hk => ?_⟩
  · rw [mu_o (by omega)]; exact s12
  · rw [mu_o (by omega)]; exact s13
  · rw [mu_o (by omega)]; exact s10
  · rw [mu_o (by omega)]; exact s11
  · rw [mu_o (by omega), mu_o (by omega)]; exact sN
  · rw [mu_o (by omega)]; exact m1
  · rw [mu_o (by omega), mu_o (by omega)]; exact m2
  · rw [mu_o (by omega)]; exact m3
  · rw [mu_o (by omega), mu_o (by omega)]; exact m4
  · rw [mu_o (by omega), mu_o (by omega)]; exact m5
  · rw [mu_s, mu_s]
  · rw [mu_s]; exact hb
  · rw [mu_o (by omega)]; exact l2
  · rw [mu_o (by omega), mu_o (by omega)]; exact l3
  · rw [mu_o (by omega), mu_o (by omega), mu_o (by omega)]; exact hl k hk
theorem rel_renew {M N : St} {ns nm H i : Nat} (h : Rel M N ns nm H) (hi : i < nm) : M 11 (8 * 0 + i) 0 = N 12 0 i ∧ Rel (mu M 11 (8 * 0 + i) 0 9) (mu (mu N 1 0 0 0) 12 0 i 9) ns nm H := by
  have hme := h.1.1.2.2.1 i hi
  obtain ⟨t, d, cr, a, L, ⟨⟨b1, b2, b3, b4, b5⟩, s12, s13, s10, s11, sN⟩, ⟨m1, m2, m3, m4, m5, m6, m7⟩, ⟨l1, l2, l3⟩, hl⟩ := id hme
  refine ⟨by rw [s11, m5], ?_⟩
  refine h.z.mem hi (fun f a hf => mu_ne (by omega)) (fun f f1 f2 f3 => mu_o (by omega)) (fun f j f1 f2 f3 => mu_of (by omega)) (fun j hj => mu_of (by omega)) ?_
  refine ⟨t, d, 9, a, L, ⟨⟨b1, b2, b3, by omega, b5⟩, ?_, ?_, ?_, ?_, ?_⟩, ⟨?_, ?_, ?_, ?_, ?_, ?_, ?_⟩, ⟨l1, ?_, ?_⟩, fun k hk => ?_⟩
  · rw [mu_o (by omega)]; exact s12
  · rw [mu_o (by omega)]; exact s13
  · rw [mu_o (by omega)]; exact s10
  · rw [mu_s]; rfl
  · rw [mu_o (by omega), mu_o (by omega)]; exact sN
  · rw [mu_o (by omega)]; exact m1
  · rw [mu_o (by omega), mu_o (by omega)]; exact m2
  · rw [mu_o (by omega)]; exact m3
  · rw [mu_o (by omega), mu_o (by omega)]; exact m4
  · rw [mu_s]; rfl
  · rw [mu_o (by omega), mu_o (by omega), mu_o (by omega)]; exact m6
  · rw [mu_o (by omega), mu_o (by omega)]; exact m7
  · rw [mu_o (by omega)]; exact l2
  · rw [mu_o (by omega), mu_o (by omega)]; exact l3
  · rw [mu_o (by omega), mu_o (by omega), mu_o (by omega)]; exact hl k hk
