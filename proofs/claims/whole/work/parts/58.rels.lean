/-! a letter, hours, what would be: the relation stays -/
theorem owL_if {N : St} {x : Int32} : ∀ q, (owL N x q = 0 ∧ ∀ k, k < q → ¬ N 15 0 (2 * k) = x) ∨ (owL N x q = 1 ∧ ∃ k, k < q ∧ N 15 0 (2 * k) = x)
  | 0 => Or.inl ⟨rfl, fun k hk => absurd hk (by omega)⟩
  | q + 1 => by
    unfold owL
    rcases owL_if (N := N) (x := x) q with ⟨e, h⟩ | ⟨e, k, hk, h⟩
    · by_cases z : N 15 0 (2 * q) = x
      · rw [e, if_pos z]
        exact Or.inr ⟨rfl, q, by omega, z⟩
      · rw [e, if_neg z]
        refine Or.inl ⟨rfl, fun k hk => ?_⟩
        by_cases hkq : k = q
        · subst hkq; exact z
        · exact h k (by omega)
    · rw [e]
      refine Or.inr ⟨?_, k, by omega, h⟩
      split <;> rfl
/-- a letter of a line on its way, on both sides -/
theorem ow_eq {M N : St} {c ns nm H q i ln : Nat} (h : clOk M N c ns nm H) (hl : leOk M N c nm q) (hc : c = 0) (hi : i < nm) (hln : ln < 40) : hlP M c (nI i) (nI ln) q ↔ ¬ owL N (nI (40 * i + ln)) q = 0 := by
  subst hc
  have hn := h.1
  have key : ∀ k, k < q → ((M 16 (16 + 0) (k * 3 + 0) = nI i ∧ M 16 (16 + 0) (k * 3 + 1) = nI ln) ↔ N 15 0 (2 * k) = nI (40 * i + ln)) := by
    intro k hk
    obtain ⟨m, l, ⟨b1, b2⟩, b3, b4, b5, b6, b7⟩ := hl.2.1 k hk
    have hs := (meOk_sz (h.2.2.1 m b1)).2.1
    rw [b3, b4, b5]
    constructor
    · rintro ⟨z1, z2⟩
      rw [nI_inj (a := m) (b := i) (by omega) (by omega) z1, nI_inj (a := l) (b := ln) (by omega) (by omega) z2]
    · intro z
      have := nI_inj (a := 40 * m + l) (b := 40 * i + ln) (by omega) (by omega) z
      rw [show m = i by omega, show l = ln by omega]
      exact ⟨rfl, rfl⟩
  constructor
  · rintro ⟨k, hk, z⟩ e
    rcases owL_if (N := N) (x := nI (40 * i + ln)) q with ⟨-, w⟩ | ⟨w, -⟩
    · exact w k hk ((key k hk).mp z)
    · rw [e] at w; exact absurd w (by decide)
  · intro e
    rcases owL_if (N := N) (x := nI (40 * i + ln)) q with ⟨w, -⟩ | ⟨-, k, hk, w⟩
    · exact absurd w e
    · exact ⟨k, hk, (key k hk).mpr w⟩
theorem owL_c {N N' : St} {x : Int32} (e : N' 15 = N 15) : ∀ q, owL N' x q = owL N x q
  | 0 => rfl
  | q + 1 => by
    unfold owL
    rw [owL_c e q, e]
theorem senF_of {M : St} {c i ln k q f a : Nat} (h : ¬ ((f = 15 ∨ f = 16) ∧ a = 16 + c)) : senF M c i ln k q f a = M f a := by
  unfold senF
  rw [mu_ne (by omega), mu_ne (by omega), mu_ne (by omega), mu_ne (by omega)]
/-- write -/
theorem rel_write {M N : St} {ns nm H i ln q s : Nat} (h : Rel M N ns nm H) (hi : i < nm) (hln : ln < szN M (8 * 0 + i)) (hq : M 15 (16 + 0) 0 = nI q) (hq3 : q < 30) (hs : s < ns) (hst : M 16 (8 * 0 + i) (ln * 4 + 1) = nI s) (hcf : ¬ M 16 (8 * 0 + i) (ln * 4 + 3) = 1) (hlp : ¬ hlP M 0 (nI i) (nI ln) q) : senD M 0 s = duR N s ∧ Rel (senF M 0 i ln s q) (wtR N i ln s q) ns nm H := by
  obtain ⟨⟨hcl, ⟨q', hl⟩, hct⟩, g2, g3, g4, ⟨g5, g6⟩, g7⟩ := h
  have hn := hcl.1
  have hqq : q' = q := nI_inj (by have := hl.1.1; omega) (by omega) (hl.1.2.1.symm.trans hq)
  subst hqq
  obtain ⟨z1, z2, z3, z4⟩ := meOk_sz (hcl.2.2.1 i hi)
  obtain ⟨fr, pw, fa, fm, ho, ph, p1, ⟨m0, m1, m2, m3, m4, m5⟩, ⟨n0, n1, n2, n3, n4, n5⟩⟩ := hcl.2.1 s hs
  have hdu : senD M 0 s = duR N s := by
    unfold senD duR
    rw [m2, n2, hcl.2.2.2.1, hcl.2.2.2.2, Int32.mul_comm 24]
  have hlp' : owL N (nI (40 * i + ln)) q' = 0 := Classical.byContradiction fun w => hlp ((ow_eq hcl hl rfl hi (by omega)).mpr w)
  have hdis : ∀ k, k < q' → ¬ N 15 0 (2 * k) = nI (40 * i + ln) := by
    rcases owL_if (N := N) (x := nI (40 * i + ln)) q' with ⟨-, w⟩ | ⟨w, -⟩
    · exact w
    · rw [hlp'] at w; exact absurd w (by decide)
  have hcf0 : M 16 (8 * 0 + i) (ln * 4 + 3) = 0 := by
    obtain ⟨t, d, cr, a, L, -, -, ⟨l1, l2, l3⟩, hli⟩ := hcl.2.2.1 i hi
    have e : szN M (8 * 0 + i) = L := nI_cl l2 (by omega)
    rcases (hli ln (by omega)).2.2 with w | w
    · exact w
    · exact absurd w hcf
  refine ⟨hdu, ?_⟩
  have hX : ∀ f a, ¬ ((f = 15 ∨ f = 16) ∧ a = 16 + 0) → senF M 0 i ln s q' f a = M f a := fun f a z => senF_of z
  have hXL : senF M 0 i ln s q' 15 (16 + 0) 0 = nI (q' + 1) := by unfold senF; exact mu_s
  have hXo : ∀ b, b < q' * 3 → senF M 0 i ln s q' 16 (16 + 0) b = M 16 (16 + 0) b := fun b hb => by
    unfold senF
    rw [mu_o (by omega), mu_j (by omega), mu_j (by omega), mu_j (by omega)]
  have hX0 : senF M 0 i ln s q' 16 (16 + 0) (q' * 3 + 0) = nI i := by
    unfold senF
    rw [mu_o (by omega), mu_j (by omega), mu_j (by omega), mu_s]
  have hX1 : senF M 0 i ln s q' 16 (16 + 0) (q' * 3 + 1) = nI ln := by
    unfold senF
    rw [mu_o (by omega), mu_j (by omega), mu_s]
  have hX2 : senF M 0 i ln s q' 16 (16 + 0) (q' * 3 + 2) = duR N s := by
    unfold senF
    rw [mu_o (by omega), mu_s]
    exact hdu
  have hY : ∀ f, f ≠ 1 → f ≠ 9 → f ≠ 15 → wtR N i ln s q' f = N f := fun f w1 w9 w15 => by
    unfold wtR
    rw [mu_o w9, mu_o w15, mu_o w15, mu_o w1]
  have hY9 : wtR N i ln s q' 9 0 0 = nI (q' + 1) := by unfold wtR; exact mu_s
  have hYo : ∀ b, b < 2 * q' → wtR N i ln s q' 15 0 b = N 15 0 b := fun b hb => by
    unfold wtR
    rw [mu_o (by omega), mu_j (by omega), mu_j (by omega), mu_o (by omega)]
  have hY0 : wtR N i ln s q' 15 0 (2 * q') = nI (40 * i + ln) := by
    unfold wtR
    rw [mu_o (by omega), mu_j (by omega), mu_s]
  have hY1 : wtR N i ln s q' 15 0 (2 * q' + 1) = duR N s := by
    unfold wtR
    rw [mu_o (by omega), mu_s]
  generalize senF M 0 i ln s q' = X at *
  generalize wtR N i ln s q' = Y at *
  have hszX : ∀ m, m < nm → szN X (8 * 0 + m) = szN M (8 * 0 + m) := fun m hm => by unfold szN; rw [hX 15 _ (by omega)]
  refine ⟨⟨⟨hn, fun k hk => stOk_c (hcl.2.1 k hk) (funext fun a => hX 0 a (by omega)) (hY 0 (by omega) (by omega) (by omega)), fun m hm => meOk_c (hcl.2.2.1 m hm) (fun f w1 w2 => hX f _ (by omega)) (by rw [hY 4 (by omega) (by omega) (by omega)]) (by rw [hY 5 (by omega) (by omega) (by omega)]) (by rw [hY 6 (by omega) (by omega) (by omega)]) (by rw [hY 7 (by omega) (by omega) (by omega)]) (by rw [hY 12 (by omega) (by omega) (by omega)]) (by rw [hY 13 (by omega) (by omega) (by omega)]) (fun b _ _ => by rw [hY 14 (by omega) (by omega) (by omega)]), by rw [hX 3 _ (by omega)]; exact hcl.2.2.2.1, by rw [hY 8 (by omega) (by omega) (by omega)]; exact hcl.2.2.2.2⟩, ⟨q' + 1, ⟨by omega, hXL, hY9⟩, fun k hk => ?_, fun k1 k2 w1 w2 => ?_⟩, ct_c hct (fun m hm => hX 15 _ (by omega)) (fun m hm => hX 16 _ (by omega)) (by rw [hY 10 (by omega) (by omega) (by omega)]) (by rw [hY 11 (by omega) (by omega) (by omega)])⟩, ⟨by rw [hX 1 _ (by omega)]; exact g2.1, g2.2.1, g2.2.2.1, fun k hk => by rw [hX 17 _ (by omega)]; exact g2.2.2.2 k hk⟩, ⟨by rw [hX 2 _ (by omega)]; exact g3.1, g3.2⟩, flK_c g4 (funext fun a => hX 17 a (by omega)), ⟨by rw [hY 2 (by omega) (by omega) (by omega)]; exact g5, by rw [hY 3 (by omega) (by omega) (by omega)]; exact g6⟩, fun m w1 w2 => by rw [hY 5 (by omega) (by omega) (by omega), hY 13 (by omega) (by omega) (by omega)]; exact g7 m w1 w2⟩
  · by_cases hkq : k = q'
    · subst hkq
      exact ⟨i, ln, ⟨hi, by rw [hszX i hi]; exact hln⟩, hX0, hX1, hY0, hX2.trans hY1.symm, by rw [hX 16 _ (by omega)]; exact hcf0⟩
    · obtain ⟨m, l, ⟨b1, b2⟩, b3, b4, b5, b6, b7⟩ := hl.2.1 k (by omega)
      exact ⟨m, l, ⟨b1, by rw [hszX m b1]; exact b2⟩, by rw [hXo _ (by omega)]; exact b3, by rw [hXo _ (by omega)]; exact b4, by rw [hYo _ (by omega)]; exact b5, by rw [hXo _ (by omega), hYo _ (by omega)]; exact b6, by rw [hX 16 _ (by omega)]; exact b7⟩
  · by_cases hkq : k2 = q'
    · subst hkq
      rw [hY0, hYo _ (by omega)]
      exact hdis k1 (by omega)
    · rw [hYo _ (by omega), hYo _ (by omega)]
      exact hl.2.2 k1 k2 w1 (by omega)
/-- hours -/
theorem hrS_hi {N : St} {c ns b : Nat} {on : Int32} : ∀ n, n ≤ b → hrS N c ns on n 13 c b = N 13 c b
  | 0, _ => rfl
  | n + 1, h => by
    have ih := hrS_hi (N := N) (c := c) (ns := ns) (b := b) (on := on) n (by omega)
    unfold hrS
    split
    · exact ih
    · split
      · exact ih
      · rw [← ih]
        unfold hsR
        split
        · rfl
        · split
          · unfold liR
            rw [mu_o (by omega), mu_j (by omega), mu_o (by omega), mu_o (by omega), mu_o (by omega), mu_o (by omega)]
          · rfl
theorem paR_13 {N : St} {c ns nm b : Nat} (h : nm ≤ b) : ∀ i, paR N c ns nm i 13 c b = N 13 c b
  | 0 => rfl
  | i + 1 => by
    show hoR (paR N c ns nm i) c ns nm 13 c b = _
    rw [← paR_13 (N := N) (c := c) (ns := ns) h i]
    unfold hoR
    rw [mu_o (by omega)]
    unfold asR
    rw [mu_o (by omega), anR_of (by omega) (by omega) (by omega), weR_of (by omega)]
    exact hrS_hi nm h
theorem okA_hr {M N : St} {c ns nm H n : Nat} (h : hrI M N c ns nm H) (hS : okS M c ns n) (hM : okM M c nm) : okA M c ns nm n := by
  obtain ⟨hcl, ⟨q, hl⟩, -⟩ := h
  exact ⟨hS, hM, clOk_Z hcl, (leOk_T hcl hl).1⟩
theorem okR_hr {M N : St} {c ns nm H : Nat} (h : hrI M N c ns nm H) (h2 : N 2 0 0 = nI ns) (h3 : N 3 0 0 = nI nm) : okR N c ns nm := by
  obtain ⟨hcl, ⟨q, hl⟩, -⟩ := h
  exact ⟨okN_hr hcl h2 h3, okX_hr hcl, (leOk_T hcl hl).2.1⟩
theorem add_sub1 {a b : Int32} : b = a + b - a := by rw [Int32.add_comm, Int32.add_sub_cancel]
theorem rel_pass {M N : St} {ns nm H h : Nat} (hr : Rel M N ns nm H) (hH : H + h ≤ 1000000) : phW M 0 ns nm h = paR (mu N 1 0 0 0) 0 ns nm h 10 0 0 - N 10 0 0 ∧ Rel (phM M 0 ns nm h) (paR (mu N 1 0 0 0) 0 ns nm h) ns nm (H + h) ∧ (∀ i, i < h → okA (phM M 0 ns nm i) 0 ns nm (78 + ns)) ∧ ∀ i, i < h → okR (paR (mu N 1 0 0 0) 0 ns nm i) 0 ns nm := by
  have hz := hr.z (x := 0)
  obtain ⟨g1, g2, g3, g4, ⟨g5, g6⟩, g7⟩ := hz
  have hp := fun i hi => pass_eq (by omega) g1 i hi
  have hM : ∀ i, H + i ≤ 1000000 → ∀ f a, ¬ hoC 0 f a → phM M 0 ns nm i f a = M f a := fun i hi f a hf => pass_fr (by omega) g1 hf i hi
  have hN : ∀ i f a, f < 8 ∨ a ≠ 0 → paR (mu N 1 0 0 0) 0 ns nm i f a = mu N 1 0 0 0 f a := fun i f a hf => paR_fr hf i
  have hS : ∀ i, H + i ≤ 1000000 → okS (phM M 0 ns nm i) 0 ns (78 + ns) := fun i hi => ⟨by rw [hM i hi 1 0 (by unfold hoC; omega)]; exact g2.1, g2.2.1, g2.2.2.1, fun k hk => by rw [hM i hi 17 0 (by unfold hoC; omega)]; exact g2.2.2.2 k hk⟩
  have hMm : ∀ i, H + i ≤ 1000000 → okM (phM M 0 ns nm i) 0 nm := fun i hi => ⟨by rw [hM i hi 2 0 (by unfold hoC; omega)]; exact g3.1, g3.2⟩
  have h2 : ∀ i, paR (mu N 1 0 0 0) 0 ns nm i 2 0 0 = nI ns := fun i => by rw [hN i 2 0 (by omega)]; exact g5
  have h3 : ∀ i, paR (mu N 1 0 0 0) 0 ns nm i 3 0 0 = nI nm := fun i => by rw [hN i 3 0 (by omega)]; exact g6
  refine ⟨?_, ⟨(hp h hH).1, hS h hH, hMm h hH, fun c i hc hz => ?_, ⟨h2 h, h3 h⟩, fun i a1 a2 => ?_⟩, fun i hi => okA_hr (hp i (by omega)).1 (hS i (by omega)) (hMm i (by omega)), fun i hi => okR_hr (hp i (by omega)).1 (h2 i) (h3 i)⟩
  · have e := (hp h hH).2
    rw [e, mu_o (by omega)]
    exact add_sub1
  · rw [hM h hH 17 c (by unfold hoC; omega)] at hz
    exact g4 c i hc hz
  · rw [hN h 5 0 (by omega), paR_13 a1]
    exact g7 i a1 a2
/-- only what the reference's first state holds counts -/
theorem Rel.fst {M N N' : St} {ns nm H : Nat} (h : Rel M N ns nm H) (e0 : N' 0 = N 0) (e : ∀ f, f ≠ 1 → N' f 0 = N f 0) : Rel M N' ns nm H := by
  obtain ⟨h1, h2, h3, h4, ⟨h5, h6⟩, h7⟩ := h
  refine ⟨hrI_x h1 rfl rfl (fun _ _ _ _ _ => rfl) (fun _ _ _ _ => rfl) rfl (fun _ _ => rfl) e0 (fun f i a1 a2 _ => by rw [e f (by omega)]) (fun f a1 a2 => by rw [e f (by omega)]) (fun i _ => by rw [e 12 (by omega)]) (fun i _ => by rw [e 13 (by omega)]) (fun b _ => by rw [e 14 (by omega)]) (fun b _ => by rw [e 15 (by omega)]), h2, h3, h4, ⟨by rw [e 2 (by omega)]; exact h5, by rw [e 3 (by omega)]; exact h6⟩, fun i a1 a2 => ?_⟩
  rw [e 5 (by omega), e 13 (by omega)]
  exact h7 i a1 a2
/-- foresee -/
theorem rel_fore {M N : St} {ns nm H h : Nat} (hr : Rel M N ns nm H) (hH : H + h ≤ 1000000) : phW (cpC M 1 0 ns nm) 1 ns nm h = frR N ns nm h 10 1 0 - frR N ns nm h 10 0 0 ∧ solF (forM M ns nm h) 1 3 nm - solF (forM M ns nm h) 0 3 nm = frR N ns nm h 11 1 0 - frR N ns nm h 11 0 0 ∧ Rel (forM M ns nm h) (frR N ns nm h) ns nm H ∧ (∀ i, i < h → okA (phM (cpC M 1 0 ns nm) 1 ns nm i) 1 ns nm (78 + ns)) ∧ (∀ i, i < h → okR (paR (beR (mu N 1 0 0 0) 1 0) 1 ns nm i) 1 ns nm) ∧ (okM (forM M ns nm h) 1 nm ∧ okZ (forM M ns nm h) 1 nm) ∧ okM (forM M ns nm h) 0 nm ∧ okZ (forM M ns nm h) 0 nm := by
  have hz := hr.z (x := 0)
  have gg := hz
  obtain ⟨g1, g2, g3, g4, ⟨g5, g6⟩, g7⟩ := gg
  have h8 := g3.2
  have h12 := g2.2.1
  have c1 := copy_eq g1
  have hp := fun i hi => pass_eq (c := 1) (by omega) c1 i hi
  have hM : ∀ i, H + i ≤ 1000000 → ∀ f a, ¬ hoC 1 f a → phM (cpC M 1 0 ns nm) 1 ns nm i f a = cpC M 1 0 ns nm f a := fun i hi f a hf => pass_fr (by omega) c1 hf i hi
  have hN : ∀ i f a, f < 8 ∨ a ≠ 1 → paR (beR (mu N 1 0 0 0) 1 0) 1 ns nm i f a = beR (mu N 1 0 0 0) 1 0 f a := fun i f a hf => paR_fr hf i
  have hS : ∀ i, H + i ≤ 1000000 → okS (phM (cpC M 1 0 ns nm) 1 ns nm i) 1 ns (78 + ns) := fun i hi => by
    obtain ⟨s1, s2, s3, s4⟩ := cpC_S (M := M) (ns := ns) (nm := nm) h12 h8 (Nat.le_refl (78 + ns))
    exact ⟨by rw [hM i hi 1 1 (by unfold hoC; omega)]; exact s1, s2, s3, fun k hk => by rw [hM i hi 17 1 (by unfold hoC; omega)]; exact s4 k hk⟩
  have hMm : ∀ i, H + i ≤ 1000000 → okM (phM (cpC M 1 0 ns nm) 1 ns nm i) 1 nm := fun i hi => ⟨by rw [hM i hi 2 1 (by unfold hoC; omega)]; exact (cpC_k (M := M) (ns := ns) h8).1, h8⟩
  have h2 : ∀ i, paR (beR (mu N 1 0 0 0) 1 0) 1 ns nm i 2 0 0 = nI ns := fun i => by rw [hN i 2 0 (by omega), beR_0]; exact g5
  have h3 : ∀ i, paR (beR (mu N 1 0 0 0) 1 0) 1 ns nm i 3 0 0 = nI nm := fun i => by rw [hN i 3 0 (by omega), beR_0]; exact g6
  have hF : ∀ f a, ¬ hoC 1 f a → forM M ns nm h f a = cpC M 1 0 ns nm f a := fun f a hf => hM h hH f a hf
  have hF0 : ∀ f a, a < 8 ∨ a = 16 → ¬ (a = 1 ∧ f < 8) → f ≠ 17 → forM M ns nm h f a = M f a := fun f a ha h1 h17 => by
    rw [hF f a (by unfold hoC; omega), cpC_of h8 (by omega) (by omega) (by omega)]
  have hF17 : ∀ a, forM M ns nm h 17 a = cpC M 1 0 ns nm 17 a := fun a => hF 17 a (by unfold hoC; omega)
  have e17 : forM M ns nm h 17 0 = M 17 0 := by rw [hF17, cpC_of h8 (by omega) (by omega) (by omega)]
  have hR : Rel (forM M ns nm h) (frR N ns nm h) ns nm H := by
    refine Rel.fst (N := mu N 1 0 0 0) ?_ ?_ (fun f hf => ?_)
    · refine hz.scr ?_ ?_ ?_ ?_ e17 ?_ (fun f a z1 z2 z3 => hF0 f a (by omega) (by omega) (by omega)) (hF0 15 16 (by omega) (by omega) (by omega)) (hF0 16 16 (by omega) (by omega) (by omega))
      · exact funext fun a => by rw [hF 0 a (by unfold hoC; omega), cpC_0]
      · rw [hF0 1 0 (by omega) (by omega) (by omega)]
      · rw [hF0 2 0 (by omega) (by omega) (by omega)]
      · rw [hF0 3 0 (by omega) (by omega) (by omega)]
      · intro c i hc hz
        rw [hF17] at hz
        rcases (show c = 0 ∨ c = 1 by omega) with rfl | rfl
        · rw [cpC_of h8 (by omega) (by omega) (by omega)] at hz
          exact g4 0 i hc hz
        · by_cases h12 : i < 12
          · rw [cpC_17 h12 h8] at hz
            by_cases hi : i < ns
            · omega
            · rw [if_neg hi] at hz
              exact absurd rfl hz
          · have e : cpC M 1 0 ns nm 17 1 i = M 17 1 i := by
              unfold cpC
              rw [cpN_ne (by omega), mu_o (by omega)]
              unfold cp2
              rw [cpB_of nm (by omega), mu_o (by omega)]
              unfold cp1
              have : ∀ n, n ≤ 12 → cpA (mu (mu M 3 1 0 (M 3 0 0)) 1 1 0 (nI ns)) 1 ns n 17 1 i = M 17 1 i := by
                intro n
                induction n with
                | zero => intro _; show mu (mu M 3 1 0 (M 3 0 0)) 1 1 0 (nI ns) 17 1 i = _; rw [mu_o (by omega), mu_o (by omega)]
                | succ n ih =>
                  intro hn
                  show mu (cpA (mu (mu M 3 1 0 (M 3 0 0)) 1 1 0 (nI ns)) 1 ns n) 17 1 n _ 17 1 i = _
                  rw [mu_j (by omega)]
                  exact ih (by omega)
              exact this 12 (Nat.le_refl 12)
            rw [e] at hz
            exact g4 1 i hc hz
    · exact funext fun a => by
        show paR _ 1 ns nm h 0 a = _
        rw [hN h 0 a (by omega), beR_lo (by omega)]
    · show paR _ 1 ns nm h f 0 = _
      rw [hN h f 0 (by omega), beR_0]
  have e0 : ∀ f, frR N ns nm h f 0 = mu N 1 0 0 0 f 0 := fun f => by
    show paR _ 1 ns nm h f 0 = _
    rw [hN h f 0 (by omega), beR_0]
  refine ⟨?_, ?_, hR, fun i hi => okA_hr (hp i (by omega)).1 (hS i (by omega)) (hMm i (by omega)), fun i hi => okR_hr (hp i (by omega)).1 (h2 i) (h3 i), ⟨hMm h hH, clOk_Z (hp h hH).1.1⟩, hR.2.2.1, hR.okZ⟩
  · have e := (hp h hH).2
    show _ = paR _ 1 ns nm h 10 1 0 - frR N ns nm h 10 0 0
    rw [e, e0, beR_8 (by omega) (by omega)]
    exact add_sub1
  · have a1 := (hp h hH).1.2.2.2
    have a0 := hR.1.2.2.2
    rw [show frR N ns nm h 11 1 0 = solF (forM M ns nm h) 1 3 nm from a1, a0]
