/-! a club's copy on both sides; what an hour leaves as it was -/
theorem cpN_o {M : St} {t u i f : Nat} (h : f ≠ 16) : cpN M t u i f = M f := by
  unfold cpN
  rw [if_neg h]
theorem cpN_ne {M : St} {t u i f a : Nat} (h : a ≠ t) : cpN M t u i f a = M f a := by
  unfold cpN
  by_cases hf : f = 16
  · subst hf; rw [if_pos rfl, if_neg h]
  · rw [if_neg hf]
theorem cpN_in {M : St} {t u i j : Nat} (h : j < i) : cpN M t u i 16 t j = M 16 u j := by
  unfold cpN
  rw [if_pos rfl, if_pos rfl, if_pos h]
theorem cpM_8 {M : St} {j k f : Nat} (h1 : 8 ≤ f) (h2 : f ≤ 15) : cpM M j k f j 0 = M f k 0 := by
  unfold cpM
  by_cases h14 : f = 14
  · subst h14; exact mu_s
  · rw [mu_o h14, cpN_o (by omega)]
    by_cases h15 : f = 15
    · subst h15; exact mu_s
    · rw [mu_o h15]
      unfold cpS
      rcases (show f = 8 ∨ f = 9 ∨ f = 10 ∨ f = 11 ∨ f = 12 ∨ f = 13 by omega) with rfl | rfl | rfl | rfl | rfl | rfl
      · rw [mu_o (by omega), mu_o (by omega), mu_o (by omega), mu_o (by omega), mu_o (by omega), mu_s]
      · rw [mu_o (by omega), mu_o (by omega), mu_o (by omega), mu_o (by omega), mu_s]
      · rw [mu_o (by omega), mu_o (by omega), mu_o (by omega), mu_s]
      · rw [mu_o (by omega), mu_o (by omega), mu_s]
      · rw [mu_o (by omega), mu_s]
      · rw [mu_s]
theorem cpM_16 {M : St} {j k b : Nat} (h : b < 160) (hjk : k ≠ j) : cpM M j k 16 j b = M 16 k b := by
  unfold cpM
  rw [mu_o (by omega), cpN_in h, mu_o (by omega)]
  unfold cpS
  rw [mu_o (by omega), mu_o (by omega), mu_o (by omega), mu_o (by omega), mu_o (by omega), mu_o (by omega)]
theorem cpB_8 {M : St} {f m : Nat} (h1 : 8 ≤ f) (h2 : f ≤ 15) : ∀ i, m < i → i ≤ 8 → cpB M 1 0 i f (8 * 1 + m) 0 = M f (8 * 0 + m) 0
  | 0, h, _ => absurd h (by omega)
  | i + 1, h, h8 => by
    show cpM (cpB M 1 0 i) (8 * 1 + i) (8 * 0 + i) f (8 * 1 + m) 0 = _
    by_cases hm : m = i
    · subst hm
      rw [cpM_8 h1 h2, cpB_of m (by omega)]
    · rw [cpM_of (by omega)]
      exact cpB_8 h1 h2 i (by omega) (by omega)
theorem cpB_16 {M : St} {m b : Nat} (hb : b < 160) : ∀ i, m < i → i ≤ 8 → cpB M 1 0 i 16 (8 * 1 + m) b = M 16 (8 * 0 + m) b
  | 0, h, _ => absurd h (by omega)
  | i + 1, h, h8 => by
    show cpM (cpB M 1 0 i) (8 * 1 + i) (8 * 0 + i) 16 (8 * 1 + m) b = _
    by_cases hm : m = i
    · subst hm
      rw [cpM_16 hb (by omega), cpB_of m (by omega)]
    · rw [cpM_of (by omega)]
      exact cpB_16 hb i (by omega) (by omega)
theorem cp1_o {M : St} {ns f : Nat} (h : f ≠ 1) (h3 : f ≠ 3) (h17 : f ≠ 17) : cp1 M 1 0 ns f = M f := funext fun a => cp1_of (by omega)
/-- the copy's cells -/
theorem cpC_8 {M : St} {ns nm f i : Nat} (h1 : 8 ≤ f) (h2 : f ≤ 15) (hi : i < nm) (h8 : nm ≤ 8) : cpC M 1 0 ns nm f (8 * 1 + i) 0 = M f (8 * 0 + i) 0 := by
  unfold cpC
  rw [cpN_o (by omega), mu_ne (by omega)]
  unfold cp2
  rw [cpB_8 h1 h2 nm hi h8, mu_o (by omega), cp1_o (by omega) (by omega) (by omega)]
theorem cpC_16 {M : St} {ns nm b i : Nat} (hb : b < 160) (hi : i < nm) (h8 : nm ≤ 8) : cpC M 1 0 ns nm 16 (8 * 1 + i) b = M 16 (8 * 0 + i) b := by
  unfold cpC
  rw [cpN_ne (by omega), mu_o (by omega)]
  unfold cp2
  rw [cpB_16 hb nm hi h8, mu_o (by omega), cp1_o (by omega) (by omega) (by omega)]
theorem cpC_L {M : St} {ns nm : Nat} (h8 : nm ≤ 8) : cpC M 1 0 ns nm 15 (16 + 1) 0 = M 15 (16 + 0) 0 := by
  unfold cpC
  rw [cpN_o (by omega), mu_s, cp2_of (by omega) (by omega)]
theorem cpC_M {M : St} {ns nm b : Nat} (hb : b < 90) (h8 : nm ≤ 8) : cpC M 1 0 ns nm 16 (16 + 1) b = M 16 (16 + 0) b := by
  unfold cpC
  rw [cpN_in hb, mu_o (by omega), cp2_of (by omega) (by omega)]
theorem cpC_lo {M : St} {ns nm f : Nat} (h : f < 8) : cpC M 1 0 ns nm f = mu (cp1 M 1 0 ns) 2 1 0 (nI nm) f := by
  unfold cpC
  rw [cpN_o (by omega), mu_o (by omega)]
  unfold cp2
  rw [cpB_1 h]
theorem cpC_of {M : St} {ns nm f a : Nat} (h8 : nm ≤ 8) (h : ¬ ((f = 3 ∨ f = 1 ∨ f = 17 ∨ f = 2) ∧ a = 1)) (h2 : ¬ (8 ≤ a ∧ a < 8 + nm)) (h3 : ¬ a = 17) : cpC M 1 0 ns nm f a = M f a := by
  unfold cpC
  rw [cpN_ne (by omega), mu_ne (by omega), cp2_of (by omega) (by omega)]
theorem cpC_3 {M : St} {ns nm : Nat} : cpC M 1 0 ns nm 3 1 0 = M 3 0 0 := by
  rw [cpC_lo (by omega), mu_o (by omega)]
  unfold cp1
  rw [cpA_of (by omega), mu_o (by omega), mu_s]
theorem cpC_0 {M : St} {ns nm : Nat} : cpC M 1 0 ns nm 0 = M 0 := by
  rw [cpC_lo (by omega), mu_o (by omega), cp1_o (by omega) (by omega) (by omega)]
theorem cpA_17 {M : St} {ns k : Nat} : ∀ n, k < n → cpA M 1 ns n 17 1 k = if k < ns then 1 else 0
  | 0, h => absurd h (by omega)
  | n + 1, h => by
    show mu (cpA M 1 ns n) 17 1 n (if n < ns then 1 else 0) 17 1 k = _
    by_cases hk : k = n
    · subst hk; exact mu_s
    · rw [mu_j hk]; exact cpA_17 n (by omega)
theorem cpC_17 {M : St} {ns nm k : Nat} (hk : k < 12) (h8 : nm ≤ 8) : cpC M 1 0 ns nm 17 1 k = if k < ns then 1 else 0 := by
  unfold cpC
  rw [cpN_ne (by omega), mu_o (by omega)]
  unfold cp2
  rw [cpB_of nm (by omega), mu_o (by omega)]
  unfold cp1
  exact cpA_17 12 hk
theorem cpC_S {M : St} {ns nm n : Nat} (h12 : ns ≤ 12) (h8 : nm ≤ 8) (hn : 78 + ns ≤ n) : okS (cpC M 1 0 ns nm) 1 ns n := by
  refine ⟨?_, h12, hn, fun k hk => ?_⟩
  · rw [cpC_lo (by omega), mu_o (by omega)]
    unfold cp1
    rw [cpA_of (by omega), mu_s]
  · rw [cpC_17 (by omega) h8, if_pos hk]
    decide
theorem cpC_k {M : St} {ns nm : Nat} (h8 : nm ≤ 8) : okM (cpC M 1 0 ns nm) 1 nm := by
  refine ⟨?_, h8⟩
  rw [cpC_lo (by omega), mu_s]
/-- the reference's copy -/
theorem cyR_in {M : St} {f c e L b : Nat} (h : b < L) : cyR M f c e L f c b = M f e b := by
  rw [cyR_s]
  unfold va_cpy
  rw [if_pos (by omega)]
  congr 1
  omega
theorem cyR_o {M : St} {f c e L g : Nat} (h : g ≠ f) : cyR M f c e L g = M g := funext fun a => cyR_of (fun z => h z.1)
theorem cyR_i {M : St} {f c e L g a : Nat} (h : a ≠ c) : cyR M f c e L g a = M g a := cyR_of (fun z => h z.2)
theorem beR_lo {N : St} {f : Nat} (h : f < 8) : beR N 1 0 f = N f := by
  unfold beR
  rw [cyR_o (by omega), cyR_o (by omega), cyR_o (by omega), cyR_o (by omega), mu_o (by omega), mu_o (by omega), mu_o (by omega), mu_o (by omega)]
theorem beR_0 {N : St} {f : Nat} : beR N 1 0 f 0 = N f 0 := by
  unfold beR
  rw [cyR_i (by omega), cyR_i (by omega), cyR_i (by omega), cyR_i (by omega), mu_ne (by omega), mu_ne (by omega), mu_ne (by omega), mu_ne (by omega)]
theorem beR_8 {N : St} {f : Nat} (h1 : 8 ≤ f) (h2 : f < 12) : beR N 1 0 f 1 0 = N f 0 0 := by
  unfold beR
  rw [cyR_o (by omega), cyR_o (by omega), cyR_o (by omega), cyR_o (by omega)]
  rcases (show f = 8 ∨ f = 9 ∨ f = 10 ∨ f = 11 by omega) with rfl | rfl | rfl | rfl
  · rw [mu_o (by omega), mu_o (by omega), mu_o (by omega), mu_s]
  · rw [mu_o (by omega), mu_o (by omega), mu_s]
  · rw [mu_o (by omega), mu_s]
  · rw [mu_s]
theorem beR_12 {N : St} {b : Nat} (h : b < 8) : beR N 1 0 12 1 b = N 12 0 b := by
  unfold beR
  rw [cyR_o (by omega), cyR_o (by omega), cyR_o (by omega), cyR_in h, mu_ne (by omega), mu_ne (by omega), mu_ne (by omega), mu_ne (by omega)]
theorem beR_13 {N : St} {b : Nat} (h : b < 8) : beR N 1 0 13 1 b = N 13 0 b := by
  unfold beR
  rw [cyR_o (by omega), cyR_o (by omega), cyR_in h, cyR_i (by omega), mu_ne (by omega), mu_ne (by omega), mu_ne (by omega), mu_ne (by omega)]
theorem beR_14 {N : St} {b : Nat} (h : b < 1280) : beR N 1 0 14 1 b = N 14 0 b := by
  unfold beR
  rw [cyR_o (by omega), cyR_in h, cyR_i (by omega), cyR_i (by omega), mu_ne (by omega), mu_ne (by omega), mu_ne (by omega), mu_ne (by omega)]
theorem beR_15 {N : St} {b : Nat} (h : b < 60) : beR N 1 0 15 1 b = N 15 0 b := by
  unfold beR
  rw [cyR_in h, cyR_i (by omega), cyR_i (by omega), cyR_i (by omega), mu_ne (by omega), mu_ne (by omega), mu_ne (by omega), mu_ne (by omega)]
/-- a member on both sides, in another place -/
theorem meOk_x {M N M' N' : St} {c c' i ns : Nat} (h : meOk M N c i ns) (h8 : ∀ f, 8 ≤ f → f ≤ 15 → M' f (8 * c' + i) 0 = M f (8 * c + i) 0) (h16 : ∀ b, b < 160 → M' 16 (8 * c' + i) b = M 16 (8 * c + i) b) (hn : ∀ f, 4 ≤ f → f ≤ 7 → N' f 0 i = N f 0 i) (h12 : N' 12 c' i = N 12 c i) (h13 : N' 13 c' i = N 13 c i) (h14 : ∀ b, 160 * i ≤ b → b < 160 * i + 160 → N' 14 c' b = N 14 c b) : meOk M' N' c' i ns := by
  obtain ⟨t, d, cr, a, L, ⟨hb, s12, s13, s10, s11, sN⟩, ⟨m1, m2, m3, m4, m5, m6, m7⟩, ⟨l1, l2, l3⟩, hl⟩ := h
  refine ⟨t, d, cr, a, L, ⟨hb, ?_, ?_, ?_, ?_, ?_⟩, ⟨?_, ?_, ?_, ?_, ?_, ?_, ?_⟩, ⟨l1, ?_, ?_⟩, fun k hk => ?_⟩
  · rw [h8 12 (by omega) (by omega)]; exact s12
  · rw [h8 13 (by omega) (by omega)]; exact s13
  · rw [h8 10 (by omega) (by omega)]; exact s10
  · rw [h8 11 (by omega) (by omega)]; exact s11
  · rw [hn 6 (by omega) (by omega)]; exact sN
  · rw [h8 8 (by omega) (by omega)]; exact m1
  · rw [hn 4 (by omega) (by omega)]; exact m2
  · rw [h8 9 (by omega) (by omega)]; exact m3
  · rw [hn 5 (by omega) (by omega)]; exact m4
  · rw [h12]; exact m5
  · rw [h8 14 (by omega) (by omega), hn 7 (by omega) (by omega)]; exact m6
  · rw [hn 7 (by omega) (by omega)]; exact m7
  · rw [h8 15 (by omega) (by omega)]; exact l2
  · rw [h13]; exact l3
  · obtain ⟨k1, k2, k3⟩ := hl k hk
    refine ⟨fun v hv => ?_, ?_, ?_⟩
    · rw [h16 _ (by omega), h14 _ (by omega) (by omega)]
      exact k1 v hv
    · rw [h16 _ (by omega)]; exact k2
    · rw [h16 _ (by omega)]; exact k3
/-- the whole relation of a club, in another place: only the cells that it speaks of -/
theorem hrI_x {M N M' N' : St} {c c' ns nm H : Nat} (h : hrI M N c ns nm H) (h0 : M' 0 = M 0) (h3 : M' 3 c' 0 = M 3 c 0) (h8 : ∀ i, i < nm → ∀ f, 8 ≤ f → f ≤ 15 → M' f (8 * c' + i) 0 = M f (8 * c + i) 0) (h16 : ∀ i, i < nm → ∀ b, b < 160 → M' 16 (8 * c' + i) b = M 16 (8 * c + i) b) (hL : M' 15 (16 + c') 0 = M 15 (16 + c) 0) (hT : ∀ b, b < 90 → M' 16 (16 + c') b = M 16 (16 + c) b) (n0 : N' 0 = N 0) (hn : ∀ f i, 4 ≤ f → f ≤ 7 → i < nm → N' f 0 i = N f 0 i) (n8 : ∀ f, 8 ≤ f → f ≤ 11 → N' f c' 0 = N f c 0) (h12 : ∀ i, i < nm → N' 12 c' i = N 12 c i) (h13 : ∀ i, i < nm → N' 13 c' i = N 13 c i) (h14 : ∀ b, b < 1280 → N' 14 c' b = N 14 c b) (h15 : ∀ b, b < 60 → N' 15 c' b = N 15 c b) : hrI M' N' c' ns nm H := by
  obtain ⟨⟨hn1, hst, hme, hx, hy⟩, ⟨q, ⟨l1, l2, l3⟩, l4, l5⟩, c1, c2⟩ := h
  have hsz : ∀ i, i < nm → szN M' (8 * c' + i) = szN M (8 * c + i) := fun i hi => by unfold szN; rw [h8 i hi 15 (by omega) (by omega)]
  have hs40 : ∀ i, i < nm → szN M (8 * c + i) ≤ 40 := fun i hi => (meOk_sz (hme i hi)).2.1
  refine ⟨⟨hn1, fun k hk => stOk_c (hst k hk) h0 n0, fun i hi => meOk_x (hme i hi) (h8 i hi) (h16 i hi) (fun f h1 h2 => hn f i h1 h2 hi) (h12 i hi) (h13 i hi) (fun b h1 h2 => h14 b (by omega)), h3.trans hx, (n8 8 (by omega) (by omega)).trans hy⟩, ⟨q, ⟨l1, hL.trans l2, (n8 9 (by omega) (by omega)).trans l3⟩, fun k hk => ?_, fun k1 k2 h1 h2 => ?_⟩, ?_, ?_⟩
  · obtain ⟨m, l, ⟨b1, b2⟩, b3, b4, b5, b6, b7⟩ := l4 k hk
    have := hs40 m b1
    exact ⟨m, l, ⟨b1, by rw [hsz m b1]; exact b2⟩, by rw [hT _ (by omega)]; exact b3, by rw [hT _ (by omega)]; exact b4, by rw [h15 _ (by omega)]; exact b5, by rw [hT _ (by omega), h15 _ (by omega)]; exact b6, by rw [h16 m b1 _ (by omega)]; exact b7⟩
  · rw [h15 _ (by omega), h15 _ (by omega)]
    exact l5 k1 k2 h1 h2
  · rw [n8 10 (by omega) (by omega), c1]
    have : ∀ n, n ≤ nm → allF M' c' n = allF M c n := by
      intro n
      induction n with
      | zero => intro _; rfl
      | succ n ih =>
        intro hn
        show allF M' c' n + _ = allF M c n + _
        rw [ih (by omega), h8 n (by omega) 15 (by omega) (by omega)]
    exact (this nm (Nat.le_refl nm)).symm
  · rw [n8 11 (by omega) (by omega), c2]
    have : ∀ n, n ≤ nm → solF M' c' 3 n = solF M c 3 n := by
      intro n
      induction n with
      | zero => intro _; rfl
      | succ n ih =>
        intro hn
        show solF M' c' 3 n + sumF M' (8 * c' + n) 3 (szN M' (8 * c' + n)) = solF M c 3 n + sumF M (8 * c + n) 3 (szN M (8 * c + n))
        have := hs40 n (by omega)
        rw [ih (by omega), hsz n (by omega), sumF_c (X := M) (t := 8 * c + n) _ (fun k hk => h16 n (by omega) _ (by omega))]
    exact (this nm (Nat.le_refl nm)).symm
/-- the copy keeps the relation -/
theorem copy_eq {M N : St} {ns nm H : Nat} (h : hrI M N 0 ns nm H) : hrI (cpC M 1 0 ns nm) (beR N 1 0) 1 ns nm H := by
  have h8 := h.1.1.2
  exact hrI_x h cpC_0 cpC_3 (fun i hi f h1 h2 => cpC_8 h1 h2 hi h8) (fun i hi b hb => cpC_16 hb hi h8) (cpC_L h8) (fun b hb => cpC_M hb h8) (beR_lo (by omega)) (fun f i h1 h2 _ => by rw [beR_lo (by omega)]) (fun f h1 h2 => beR_8 h1 (by omega)) (fun i hi => beR_12 (by omega)) (fun i hi => beR_13 (by omega)) (fun b hb => beR_14 hb) (fun b hb => beR_15 hb)
