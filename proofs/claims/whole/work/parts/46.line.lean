/-! a member stays related: where nothing of it changes; where a line is written -/
theorem meOk_c {M N M' N' : St} {c i ns : Nat} (h : meOk M N c i ns) (hM : ∀ f, 8 ≤ f → f ≤ 16 → M' f (8 * c + i) = M f (8 * c + i)) (h4 : N' 4 0 i = N 4 0 i) (h5 : N' 5 0 i = N 5 0 i) (h6 : N' 6 0 i = N 6 0 i) (h7 : N' 7 0 i = N 7 0 i) (h12 : N' 12 c i = N 12 c i) (h13 : N' 13 c i = N 13 c i) (h14 : ∀ b, 160 * i ≤ b → b < 160 * i + 160 → N' 14 c b = N 14 c b) : meOk M' N' c i ns := by
  obtain ⟨t, d, cr, a, L, ⟨hb, s12, s13, s10, s11, sN⟩, ⟨m1, m2, m3, m4, m5, m6, m7⟩, ⟨l1, l2, l3⟩, hl⟩ := h
  refine ⟨t, d, cr, a, L, ⟨hb, ?_, ?_, ?_, ?_, ?_⟩, ⟨?_, ?_, ?_, ?_, ?_, ?_, ?_⟩, ⟨l1, ?_, ?_⟩, fun k hk => ?_⟩
  · rw [hM 12 (by omega) (by omega)]; exact s12
  · rw [hM 13 (by omega) (by omega)]; exact s13
  · rw [hM 10 (by omega) (by omega)]; exact s10
  · rw [hM 11 (by omega) (by omega)]; exact s11
  · rw [h6]; exact sN
  · rw [hM 8 (by omega) (by omega)]; exact m1
  · rw [h4]; exact m2
  · rw [hM 9 (by omega) (by omega)]; exact m3
  · rw [h5]; exact m4
  · rw [h12]; exact m5
  · rw [hM 14 (by omega) (by omega), h7]; exact m6
  · rw [h7]; exact m7
  · rw [hM 15 (by omega) (by omega)]; exact l2
  · rw [h13]; exact l3
  · obtain ⟨k1, k2, k3⟩ := hl k hk
    rw [hM 16 (by omega) (by omega)]
    refine ⟨fun v hv => ?_, k2, k3⟩
    rw [h14 _ (by omega) (by omega)]
    exact k1 v hv
theorem meOk_add {M N M' N' : St} {c i ns s st : Nat} {hr x : Int32} (h : meOk M N c i ns) (hs : M 15 (8 * c + i) 0 = nI s) (hs2 : s < 40) (hst : st < ns) (eM : M' = adlF M (8 * c + i) s hr (nI st) x) (h4 : N' 4 0 i = N 4 0 i) (h5 : N' 5 0 i = N 5 0 i) (h6 : N' 6 0 i = N 6 0 i) (h7 : N' 7 0 i = N 7 0 i) (h12 : N' 12 c i = N 12 c i) (h13 : N' 13 c i = nI (s + 1)) (g0 : N' 14 c (4 * (40 * i + s)) = hr) (g1 : N' 14 c (4 * (40 * i + s) + 1) = nI st) (g2 : N' 14 c (4 * (40 * i + s) + 2) = x) (g3 : N' 14 c (4 * (40 * i + s) + 3) = 0) (h14 : ∀ b, 160 * i ≤ b → b < 160 * i + 4 * s → N' 14 c b = N 14 c b) : meOk M' N' c i ns := by
  obtain ⟨t, d, cr, a, L, ⟨hb, s12, s13, s10, s11, sN⟩, ⟨m1, m2, m3, m4, m5, m6, m7⟩, ⟨l1, l2, l3⟩, hl⟩ := h
  have hL : L = s := nI_inj (by omega) (by omega) (l2.symm.trans hs)
  subst hL
  have hM : ∀ f, f ≠ 15 → f ≠ 16 → M' f = M f := by
    intro f h1 h2
    rw [eM]
    unfold adlF
    rw [mu_o h1, mu_o h2, mu_o h2, mu_o h2, mu_o h2]
  have h16 : ∀ b, b < L * 4 → M' 16 (8 * c + i) b = M 16 (8 * c + i) b := by
    intro b hb
    rw [eM]
    unfold adlF
    rw [mu_o (by omega), mu_j (by omega), mu_j (by omega), mu_j (by omega), mu_j (by omega)]
  have w : ∀ v y, (v = 0 ∧ y = hr) ∨ (v = 1 ∧ y = nI st) ∨ (v = 2 ∧ y = x) ∨ (v = 3 ∧ y = 0) → M' 16 (8 * c + i) (L * 4 + v) = y := by
    intro v y hv
    rw [eM]
    unfold adlF
    rw [mu_o (by omega)]
    rcases hv with ⟨rfl, rfl⟩ | ⟨rfl, rfl⟩ | ⟨rfl, rfl⟩ | ⟨rfl, rfl⟩
    · rw [mu_j (by omega), mu_j (by omega), mu_j (by omega), mu_s]
    · rw [mu_j (by omega), mu_j (by omega), mu_s]
    · rw [mu_j (by omega), mu_s]
    · rw [mu_s]
  refine ⟨t, d, cr, a, L + 1, ⟨hb, ?_, ?_, ?_, ?_, ?_⟩, ⟨?_, ?_, ?_, ?_, ?_, ?_, ?_⟩, ⟨by omega, ?_, ?_⟩, fun k hk => ?_⟩
  · rw [hM 12 (by omega) (by omega)]; exact s12
  · rw [hM 13 (by omega) (by omega)]; exact s13
  · rw [hM 10 (by omega) (by omega)]; exact s10
  · rw [hM 11 (by omega) (by omega)]; exact s11
  · rw [h6]; exact sN
  · rw [hM 8 (by omega) (by omega)]; exact m1
  · rw [h4]; exact m2
  · rw [hM 9 (by omega) (by omega)]; exact m3
  · rw [h5]; exact m4
  · rw [h12]; exact m5
  · rw [hM 14 (by omega) (by omega), h7]; exact m6
  · rw [h7]; exact m7
  · rw [eM]; exact mu_s
  · exact h13
  · by_cases hkL : k = L
    · subst hkL
      refine ⟨fun v hv => ?_, ⟨st, hst, w 1 _ (Or.inr (Or.inl ⟨rfl, rfl⟩))⟩, Or.inl (w 3 _ (Or.inr (Or.inr (Or.inr ⟨rfl, rfl⟩))))⟩
      rcases (show v = 0 ∨ v = 1 ∨ v = 2 ∨ v = 3 by omega) with rfl | rfl | rfl | rfl
      · rw [w 0 _ (Or.inl ⟨rfl, rfl⟩)]; exact g0.symm
      · rw [w 1 _ (Or.inr (Or.inl ⟨rfl, rfl⟩))]; exact g1.symm
      · rw [w 2 _ (Or.inr (Or.inr (Or.inl ⟨rfl, rfl⟩)))]; exact g2.symm
      · rw [w 3 _ (Or.inr (Or.inr (Or.inr ⟨rfl, rfl⟩)))]; exact g3.symm
    · obtain ⟨k1, k2, k3⟩ := hl k (by omega)
      refine ⟨fun v hv => ?_, ?_, ?_⟩
      · rw [h16 _ (by omega), h14 _ (by omega) (by omega)]
        exact k1 v hv
      · rw [h16 _ (by omega)]; exact k2
      · rw [h16 _ (by omega)]; exact k3
