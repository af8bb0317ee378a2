/-! all letters of an hour on both sides -/
theorem an_all {M N : St} {c ns nm H q : Nat} (hc : c < 2) (h : clOk M N c ns nm H) (hl : leOk M N c nm q) : ∀ k, k ≤ q → (anR N c k).2 = (alMK M c k).2 ∧ anI (alMK M c k).1 (anR N c k).1 c ns nm H k (alMK M c k).2 q ∧ ∃ g, (anR N c k).1 11 c 0 = N 11 c 0 + g ∧ solF (alMK M c k).1 c 3 nm = solF M c 3 nm + g
  | 0, _ => by
    refine ⟨rfl, ⟨Nat.le_refl 0, h, fun j hj => ?_, fun j1 j2 h1 h2 h3 => ?_⟩, 0, (Int32.add_zero _).symm, (Int32.add_zero _).symm⟩
    · have hj : j < 0 ∨ (0 ≤ j ∧ j < q) := hj
      exact hl.2.1 j (by omega)
    · have h1 : j1 < 0 ∨ (0 ≤ j1 ∧ j1 < q) := h1
      have h2 : j2 < 0 ∨ (0 ≤ j2 ∧ j2 < q) := h2
      have b1 : j1 < q := by omega
      have b2 : j2 < q := by omega
      by_cases z : j1 < j2
      · exact hl.2.2 j1 j2 z b2
      · exact fun e => hl.2.2 j2 j1 (by omega) b1 e.symm
  | k + 1, hk => by
    obtain ⟨e2, hi, g, g1, g2⟩ := an_all hc h hl k (by omega)
    obtain ⟨hT, hY, eT, eY⟩ := leOk_T h hl
    have hn := h.1
    obtain ⟨m, l, ⟨b1, b2⟩, b3, b4, b5, b6, b7⟩ := hl.2.1 k (by omega)
    have hs := (meOk_sz (h.2.2.1 m b1)).2.1
    have em : lmN M c k = m := nI_cl b3 (by omega)
    have el : llN M c k = l := nI_cl b4 (by omega)
    have en : lnR N c k = 40 * m + l := nI_cl b5 (by omega)
    have hlm : ∀ i, i < k → lmN M c i < nm := fun i hi => (hT.2.2 i (by rw [eT]; omega)).2.1
    have rX : ∀ b, k * 3 ≤ b → (alMK M c k).1 16 (16 + c) b = M 16 (16 + c) b := fun b hb => al_row hc hn.2 k hlm hb
    have rY : ∀ b, 2 * k ≤ b → (anR N c k).1 15 c b = N 15 c b := fun b hb => anR_15 k hb
    have hx3 := hi.2.1.2.2.2.1
    have hy8 := hi.2.1.2.2.2.2
    have hm' : (alMK M c k).1 16 (16 + c) (k * 3 + 0) = nI m := by rw [rX _ (by omega)]; exact b3
    have hl' : (alMK M c k).1 16 (16 + c) (k * 3 + 1) = nI l := by rw [rX _ (by omega)]; exact b4
    have hd : (alMK M c k).1 16 (16 + c) (k * 3 + 2) = (anR N c k).1 15 c (2 * k + 1) := by rw [rX _ (by omega), rY _ (by omega)]; exact b6
    unfold alMK anR
    rw [em, el, en, hx3, hy8, hd]
    by_cases hdue : (anR N c k).1 15 c (2 * k + 1) ≤ nI H
    · rw [if_pos hdue, if_pos hdue]
      obtain ⟨r1, g', r2, r3⟩ := an_due hc hi (by omega) hm' hl' (by omega) (by omega)
      have et : (if (anR N c k).1 14 c (4 * (40 * m + l) + 2) < 8 then anR N c k else (mu (mu (anR N c k).1 14 c (4 * (40 * m + l) + 3) 1) 11 c 0 ((anR N c k).1 11 c 0 + 1), (anR N c k).2)) = (tkR (anR N c k).1 c (40 * m + l), (anR N c k).2) := by
        unfold tkR
        split <;> rfl
      rw [et]
      exact ⟨e2, r1, g + g', by show tkR _ c _ 11 c 0 = _; rw [r2, g1, Int32.add_assoc], by show solF (takF _ _ _) c 3 nm = _; rw [r3, g2, Int32.add_assoc]⟩
    · rw [if_neg hdue, if_neg hdue, e2]
      obtain ⟨r1, r3⟩ := an_keep hc hi (by omega) hm' hl' (by omega) (by omega)
      have hh : ∀ (Y : St) (b1 b2 : Nat) (v1 v2 : Int32), mu (mu Y 15 c b1 v1) 15 c b2 v2 11 c 0 = Y 11 c 0 := fun Y b1 b2 v1 v2 => by rw [mu_o (by omega), mu_o (by omega)]
      exact ⟨rfl, r1, g, (hh (anR N c k).1 (2 * (alMK M c k).2) (2 * (alMK M c k).2 + 1) (nI (40 * m + l)) ((anR N c k).1 15 c (2 * k + 1))).trans g1, by show solF (cpR _ _ _ _) c 3 nm = _; rw [r3]; exact g2⟩
theorem ans_eq {M N : St} {c ns nm H q : Nat} (hc : c < 2) (h : clOk M N c ns nm H) (hl : leOk M N c nm q) : clOk (ansF M c) (asR N c) c ns nm H ∧ (∃ u, leOk (ansF M c) (asR N c) c nm u) ∧ ∃ g, asR N c 11 c 0 = N 11 c 0 + g ∧ solF (ansF M c) c 3 nm = solF M c 3 nm + g := by
  obtain ⟨hT, hY, eT, eY⟩ := leOk_T h hl
  obtain ⟨e2, ⟨hu, hcl, hlt, hne⟩, g, g1, g2⟩ := an_all hc h hl q (Nat.le_refl q)
  unfold ansF asR
  rw [eT, eY, e2]
  generalize (alMK M c q).1 = X at *
  generalize (alMK M c q).2 = u at *
  generalize (anR N c q).1 = Y at *
  have hn := h.1
  have hq := hl.1.1
  have hX : ∀ i, i < nm → mu X 15 (16 + c) 0 (nI u) 15 (8 * c + i) = X 15 (8 * c + i) := fun i hi => mu_i (by omega)
  refine ⟨⟨hcl.1, fun k hk => stOk_c (hcl.2.1 k hk) (mu_o (by omega)) (mu_o (by omega)), fun i hi => ?_, by rw [mu_o (by omega)]; exact hcl.2.2.2.1, by rw [mu_o (by omega)]; exact hcl.2.2.2.2⟩, ⟨u, ⟨by omega, mu_s, mu_s⟩, fun k hk => ?_, fun k1 k2 h1 h2 => ?_⟩, g, by rw [mu_o (by omega)]; exact g1, ?_⟩
  · exact meOk_c (hcl.2.2.1 i hi) (fun f h1 h2 => mu_ne (by omega)) (by rw [mu_o (by omega)]) (by rw [mu_o (by omega)]) (by rw [mu_o (by omega)]) (by rw [mu_o (by omega)]) (by rw [mu_o (by omega)]) (by rw [mu_o (by omega)]) (fun b _ _ => by rw [mu_o (by omega)])
  · obtain ⟨m, l, ⟨b1, b2⟩, b3⟩ := hlt k (Or.inl hk)
    refine ⟨m, l, ⟨b1, ?_⟩, ?_⟩
    · unfold szN; rw [hX m b1]; exact b2
    · rw [mu_o (by omega), mu_o (by omega)]; exact b3
  · rw [mu_o (by omega)]
    exact hne k1 k2 (Or.inl (by omega)) (Or.inl h2) (by omega)
  · rw [← g2]
    have : ∀ i, i ≤ nm → solF (mu X 15 (16 + c) 0 (nI u)) c 3 i = solF X c 3 i := by
      intro i
      induction i with
      | zero => intro _; rfl
      | succ i ih =>
        intro hi
        show solF (mu X 15 (16 + c) 0 (nI u)) c 3 i + sumF (mu X 15 (16 + c) 0 (nI u)) (8 * c + i) 3 (szN (mu X 15 (16 + c) 0 (nI u)) (8 * c + i)) = solF X c 3 i + sumF X (8 * c + i) 3 (szN X (8 * c + i))
        have hsz : szN (mu X 15 (16 + c) 0 (nI u)) (8 * c + i) = szN X (8 * c + i) := by unfold szN; rw [hX i (by omega)]
        rw [ih (by omega), hsz, sumF_c (X := X) (t := 8 * c + i) _ (fun k hk => by rw [mu_o (by omega)])]
    exact this nm (Nat.le_refl nm)
