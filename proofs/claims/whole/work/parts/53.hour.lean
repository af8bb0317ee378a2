/-! an hour on both sides: lines, crystals, letters, and what was counted -/
theorem wrl_grow {X : St} {c j s ns : Nat} : (∀ f t, f = 15 ∨ f = 16 → t ≠ j → wrlM X c j s ns f t = X f t) ∧ ((wrlR X c j s ns = 0 ∧ wrlM X c j s ns 15 j = X 15 j ∧ wrlM X c j s ns 16 j = X 16 j) ∨ (wrlR X c j s ns = 1 ∧ wrlM X c j s ns 15 j 0 = nI (s + 1) ∧ wrlM X c j s ns 16 j (s * 4 + 3) = 0 ∧ ∀ b, b < s * 4 → wrlM X c j s ns 16 j b = X 16 j b)) := by
  have hZ : ∀ f t, f = 15 ∨ f = 16 → heaM X c j (X 3 c 0) ns f t = X f t := fun f t hf => heaM_of (by omega)
  refine ⟨fun f t hf ht => wrlM_of (by omega) (by omega), ?_⟩
  unfold wrlM wrlR
  dsimp only
  generalize heaM X c j (X 3 c 0) ns = Z at *
  by_cases h0 : verQ (getQ Z c) < 0
  · rw [if_pos h0, if_pos h0]
    exact Or.inl ⟨rfl, hZ 15 j (by omega), hZ 16 j (by omega)⟩
  · rw [if_neg h0, if_neg h0]
    by_cases hb : b2 (hasP Z j (verQ (getQ Z c)) (Z 3 c 0 / 24) s) = 0
    · rw [if_pos hb, if_pos hb]
      refine Or.inr ⟨rfl, mu_s, ?_, fun b hb => ?_⟩
      · unfold adlF
        rw [mu_o (by omega), mu_s]
      · unfold adlF
        rw [mu_o (by omega), mu_j (by omega), mu_j (by omega), mu_j (by omega), mu_j (by omega), hZ 16 j (by omega)]
    · rw [if_neg hb, if_neg hb]
      exact Or.inl ⟨rfl, hZ 15 j (by omega), hZ 16 j (by omega)⟩
theorem allF_1 {X X' : St} {c m : Nat} {d : Int32} (hX : ∀ i, i ≠ m → X' 15 (8 * c + i) 0 = X 15 (8 * c + i) 0) (hm : X' 15 (8 * c + m) 0 = X 15 (8 * c + m) 0 + d) : ∀ i, allF X' c i = allF X c i + if m < i then d else 0
  | 0 => by rw [if_neg (by omega), Int32.add_zero]; rfl
  | i + 1 => by
    show allF X' c i + X' 15 (8 * c + i) 0 = allF X c i + X 15 (8 * c + i) 0 + _
    rw [allF_1 hX hm i]
    by_cases h : i = m
    · subst h
      rw [hm, if_neg (by omega), if_pos (by omega), Int32.add_zero, Int32.add_assoc]
    · rw [hX i h, Int32.add_assoc, Int32.add_comm (if m < i then d else 0), ← Int32.add_assoc]
      congr 1
      by_cases h : m < i
      · rw [if_pos h, if_pos (by omega)]
      · rw [if_neg h, if_neg (by omega)]
theorem allF_c {X X' : St} {c : Nat} : ∀ n, (∀ i, i < n → X' 15 (8 * c + i) 0 = X 15 (8 * c + i) 0) → allF X' c n = allF X c n
  | 0, _ => rfl
  | n + 1, h => by
    show allF X' c n + _ = allF X c n + _
    rw [allF_c n (fun i hi => h i (by omega)), h n (by omega)]
theorem solF_c {X X' : St} {c k : Nat} : ∀ n, (∀ i, i < n → sumF X' (8 * c + i) k (szN X' (8 * c + i)) = sumF X (8 * c + i) k (szN X (8 * c + i))) → solF X' c k n = solF X c k n
  | 0, _ => rfl
  | n + 1, h => by
    show solF X' c k n + _ = solF X c k n + _
    rw [solF_c n (fun i hi => h i (by omega)), h n (by omega)]
/-- how a member's log may have grown -/
def growP (M M' : St) (t : Nat) : Prop := szN M t ≤ szN M' t ∧ (∀ b, b < szN M t * 4 → M' 16 t b = M 16 t b) ∧ sumF M' t 3 (szN M' t) = sumF M t 3 (szN M t)
theorem growP_c {M X X' : St} {t : Nat} (h : growP M X t) (h15 : X' 15 t = X 15 t) (h16 : X' 16 t = X 16 t) : growP M X' t := by
  have hs : szN X' t = szN X t := by unfold szN; rw [h15]
  obtain ⟨h1, h2, h3⟩ := h
  refine ⟨by rw [hs]; exact h1, fun b hb => by rw [h16]; exact h2 b hb, ?_⟩
  rw [hs, ← h3]
  exact sumF_c _ (fun k _ => by rw [h16])
theorem wl_grow {M : St} {c ns nm : Nat} (hz : okZ M c nm) (h8 : nm ≤ 8) : ∀ i, i ≤ nm → (∀ m, m < nm → growP M (wlM M c ns i) (8 * c + m)) ∧ allF (wlM M c ns i) c nm = allF M c nm + wlN M c ns i
  | 0, _ => ⟨fun m hm => ⟨Nat.le_refl _, fun _ _ => rfl, rfl⟩, (Int32.add_zero _).symm⟩
  | i + 1, hi => by
    obtain ⟨ih, ia⟩ := wl_grow hz h8 i (by omega)
    have hx15 := wlM_sz (ns := ns) hz (show i < nm by omega)
    have hx16 : wlM M c ns i 16 (8 * c + i) = M 16 (8 * c + i) := wlM_of (by omega) i (by omega)
    have hs40 := (hz i (by omega)).2
    unfold wlM wlN
    by_cases a0 : wlM M c ns i 14 (8 * c + i) 0 = 0
    · rw [if_pos a0, if_pos a0]; exact ⟨ih, ia⟩
    · rw [if_neg a0, if_neg a0]
      by_cases a1 : (szN M (8 * c + i) + 1) * 4 ≤ 160
      · rw [if_pos a1, if_pos a1]
        obtain ⟨g1, g2⟩ := wrl_grow (X := wlM M c ns i) (c := c) (j := 8 * c + i) (s := szN M (8 * c + i)) (ns := ns)
        generalize wlM M c ns i = X at *
        generalize wrlM X c (8 * c + i) (szN M (8 * c + i)) ns = X' at *
        generalize wrlR X c (8 * c + i) (szN M (8 * c + i)) ns = w at *
        rcases g2 with ⟨e, e15, e16⟩ | ⟨e, e15, e16, eb⟩
        · rw [if_pos e]
          refine ⟨fun m hm => ?_, ?_⟩
          · by_cases hmi : m = i
            · subst hmi; exact growP_c (ih m hm) e15 e16
            · exact growP_c (ih m hm) (g1 15 _ (by omega) (by omega)) (g1 16 _ (by omega) (by omega))
          · rw [← ia]
            refine allF_c nm (fun m hm => ?_)
            by_cases hmi : m = i
            · subst hmi; rw [e15]
            · rw [g1 15 _ (by omega) (by omega)]
        · rw [if_neg (by rw [e]; decide)]
          refine ⟨fun m hm => ?_, ?_⟩
          · by_cases hmi : m = i
            · subst hmi
              have hs : szN X' (8 * c + m) = szN M (8 * c + m) + 1 := nI_cl e15 (by omega)
              refine ⟨by omega, fun b hb => by rw [eb b hb, hx16], ?_⟩
              rw [hs]
              show sumF X' (8 * c + m) 3 (szN M (8 * c + m)) + X' 16 (8 * c + m) (szN M (8 * c + m) * 4 + 3) = _
              rw [e16, Int32.add_zero]
              exact sumF_c _ (fun k hk => by rw [eb _ (by omega), hx16])
            · exact growP_c (ih m hm) (g1 15 _ (by omega) (by omega)) (g1 16 _ (by omega) (by omega))
          · rw [allF_1 (X := X) (X' := X') (c := c) (m := i) (d := 1) (fun m hm => by rw [g1 15 _ (by omega) (by omega)]) (by rw [e15, hx15]; exact (nI_1 _).symm) nm, ia, if_pos (by omega), Int32.add_assoc]
      · rw [if_neg a1, if_neg a1]; exact ⟨ih, ia⟩
/-- what was counted: lines and confirmations -/
def ctOk (M N : St) (c nm : Nat) : Prop := N 10 c 0 = allF M c nm ∧ N 11 c 0 = solF M c 3 nm
def hrI (M N : St) (c ns nm H : Nat) : Prop := clOk M N c ns nm H ∧ (∃ q, leOk M N c nm q) ∧ ctOk M N c nm
theorem le_grow {M N M' N' : St} {c nm q : Nat} (hl : leOk M N c nm q) (hG : ∀ m, m < nm → growP M M' (8 * c + m)) (h15 : M' 15 (16 + c) = M 15 (16 + c)) (h16 : M' 16 (16 + c) = M 16 (16 + c)) (n9 : N' 9 c 0 = N 9 c 0) (n15 : N' 15 c = N 15 c) : leOk M' N' c nm q := by
  obtain ⟨⟨l1, l2, l3⟩, l4, l5⟩ := hl
  refine ⟨⟨l1, by rw [h15]; exact l2, by rw [n9]; exact l3⟩, fun k hk => ?_, fun k1 k2 h1 h2 => by rw [n15]; exact l5 k1 k2 h1 h2⟩
  obtain ⟨m, l, ⟨b1, b2⟩, b3, b4, b5, b6, b7⟩ := l4 k hk
  obtain ⟨g1, g2, -⟩ := hG m b1
  exact ⟨m, l, ⟨b1, by omega⟩, by rw [h16]; exact b3, by rw [h16]; exact b4, by rw [n15]; exact b5, by rw [h16, n15]; exact b6, by rw [g2 _ (by omega)]; exact b7⟩
theorem growP_0 {M M' : St} {t : Nat} (h15 : M' 15 t = M 15 t) (h16 : M' 16 t = M 16 t) : growP M M' t := growP_c (X := M) ⟨Nat.le_refl _, fun _ _ => rfl, rfl⟩ h15 h16
theorem ct_c {M N M' N' : St} {c nm : Nat} (h : ctOk M N c nm) (h15 : ∀ i, i < nm → M' 15 (8 * c + i) = M 15 (8 * c + i)) (h16 : ∀ i, i < nm → M' 16 (8 * c + i) = M 16 (8 * c + i)) (n10 : N' 10 c 0 = N 10 c 0) (n11 : N' 11 c 0 = N 11 c 0) : ctOk M' N' c nm := by
  refine ⟨by rw [n10, h.1]; exact (allF_c nm (fun i hi => by rw [h15 i hi])).symm, by rw [n11, h.2]; exact (solF_c nm (fun i hi => (growP_0 (h15 i hi) (h16 i hi)).2.2)).symm⟩
theorem clOk_Z {M N : St} {c ns nm H : Nat} (h : clOk M N c ns nm H) : okZ M c nm := fun i hi => ⟨(meOk_sz (h.2.2.1 i hi)).1, (meOk_sz (h.2.2.1 i hi)).2.1⟩
theorem hour_eq {M N : St} {c ns nm H : Nat} (hc : c < 2) (h : hrI M N c ns nm H) (hH : H < 1000000) : hrI (hrM M c ns nm) (hoR N c ns nm) c ns nm (H + 1) ∧ hoR N c ns nm 10 c 0 = N 10 c 0 + wlN M c ns nm := by
  obtain ⟨hcl, ⟨q, hl⟩, hct⟩ := h
  have hn := hcl.1
  obtain ⟨a1, a2, -⟩ := w_all hc hcl hH nm (Nat.le_refl nm)
  obtain ⟨b1, b2⟩ := wl_grow (ns := ns) (clOk_Z hcl) hn.2 nm (Nat.le_refl nm)
  have e1 : haR N c ns nm = hrS N c ns (onR N (nI H) ns) nm := by unfold haR; rw [hcl.2.2.2.2]
  rw [← e1] at a1 a2
  have hY : ∀ f, f ≠ 14 → f ≠ 13 → f ≠ 10 → haR N c ns nm f = N f := fun f h1 h2 h3 => hrS_o h1 h2 h3
  have l1 : leOk (wlM M c ns nm) (haR N c ns nm) c nm q := le_grow hl b1 (wlM_of (by omega) nm (by omega)) (wlM_of (by omega) nm (by omega)) (by rw [hY 9 (by omega) (by omega) (by omega)]) (by rw [hY 15 (by omega) (by omega) (by omega)])
  have c1 : ctOk (wlM M c ns nm) (haR N c ns nm) c nm := ⟨by rw [a2, hct.1, b2], by rw [hY 11 (by omega) (by omega) (by omega), hct.2]; exact (solF_c nm (fun i hi => (b1 i hi).2.2)).symm⟩
  unfold hrM hoR
  dsimp only
  generalize wlM M c ns nm = X1 at *
  generalize haR N c ns nm = Y1 at *
  have a3 := wear_eq a1
  have hX2 : ∀ f, f ≠ 11 → wearF X1 c nm f = X1 f := fun f hf => wearF_of hf
  have hY2 : ∀ f, f ≠ 12 → weR Y1 c nm f = Y1 f := fun f hf => weR_of hf
  have l2 : leOk (wearF X1 c nm) (weR Y1 c nm) c nm q := le_grow l1 (fun m hm => growP_0 (by rw [hX2 15 (by omega)]) (by rw [hX2 16 (by omega)])) (by rw [hX2 15 (by omega)]) (by rw [hX2 16 (by omega)]) (by rw [hY2 9 (by omega)]) (by rw [hY2 15 (by omega)])
  have c2 : ctOk (wearF X1 c nm) (weR Y1 c nm) c nm := ct_c c1 (fun i hi => by rw [hX2 15 (by omega)]) (fun i hi => by rw [hX2 16 (by omega)]) (by rw [hY2 10 (by omega)]) (by rw [hY2 11 (by omega)])
  have a2' : weR Y1 c nm 10 c 0 = N 10 c 0 + wlN M c ns nm := by rw [hY2 10 (by omega)]; exact a2
  generalize wearF X1 c nm = X2 at *
  generalize weR Y1 c nm = Y2 at *
  obtain ⟨a4, ⟨u, l3⟩, g, g1, g2⟩ := ans_eq hc a3 l2
  have hX3 : ∀ i, i < nm → ansF X2 c 15 (8 * c + i) = X2 15 (8 * c + i) := fun i hi => by
    unfold ansF
    rw [mu_i (by omega), al_of (by omega)]
  have hY3 : asR Y2 c 10 = Y2 10 := by
    unfold asR
    rw [mu_o (by omega), anR_of (by omega) (by omega) (by omega)]
  have c3 : ctOk (ansF X2 c) (asR Y2 c) c nm := ⟨by rw [hY3, c2.1]; exact (allF_c nm (fun i hi => by rw [hX3 i hi])).symm, by rw [g1, c2.2, g2]⟩
  have a2'' : asR Y2 c 10 c 0 = N 10 c 0 + wlN M c ns nm := by rw [hY3]; exact a2'
  generalize ansF X2 c = X3 at *
  generalize asR Y2 c = Y3 at *
  have hX4 : ∀ f, f ≠ 3 → mu X3 3 c 0 (X3 3 c 0 + 1) f = X3 f := fun f hf => mu_o hf
  have hY4 : ∀ f, f ≠ 8 → mu Y3 8 c 0 (Y3 8 c 0 + 1) f = Y3 f := fun f hf => mu_o hf
  refine ⟨⟨⟨hn, fun k hk => stOk_c (a4.2.1 k hk) (hX4 0 (by omega)) (hY4 0 (by omega)), fun i hi => meOk_c (a4.2.2.1 i hi) (fun f h1 h2 => by rw [hX4 f (by omega)]) (by rw [hY4 4 (by omega)]) (by rw [hY4 5 (by omega)]) (by rw [hY4 6 (by omega)]) (by rw [hY4 7 (by omega)]) (by rw [hY4 12 (by omega)]) (by rw [hY4 13 (by omega)]) (fun b _ _ => by rw [hY4 14 (by omega)]), ?_, ?_⟩, ⟨u, le_grow l3 (fun m hm => growP_0 (by rw [hX4 15 (by omega)]) (by rw [hX4 16 (by omega)])) (by rw [hX4 15 (by omega)]) (by rw [hX4 16 (by omega)]) (by rw [hY4 9 (by omega)]) (by rw [hY4 15 (by omega)])⟩, ct_c c3 (fun i hi => by rw [hX4 15 (by omega)]) (fun i hi => by rw [hX4 16 (by omega)]) (by rw [hY4 10 (by omega)]) (by rw [hY4 11 (by omega)])⟩, ?_⟩
  · rw [mu_s, a4.2.2.2.1]; exact nI_1 H
  · rw [mu_s, a4.2.2.2.2]; exact nI_1 H
  · rw [hY4 10 (by omega)]; exact a2''
/-- hours on both sides -/
theorem pass_eq {M N : St} {c ns nm H : Nat} (hc : c < 2) (h : hrI M N c ns nm H) : ∀ i, H + i ≤ 1000000 → hrI (phM M c ns nm i) (paR N c ns nm i) c ns nm (H + i) ∧ paR N c ns nm i 10 c 0 = N 10 c 0 + phW M c ns nm i
  | 0, _ => ⟨h, (Int32.add_zero _).symm⟩
  | i + 1, hi => by
    obtain ⟨ih, iw⟩ := pass_eq hc h i (by omega)
    obtain ⟨r1, r2⟩ := hour_eq hc ih (by omega)
    refine ⟨r1, ?_⟩
    show hoR (paR N c ns nm i) c ns nm 10 c 0 = N 10 c 0 + (phW M c ns nm i + wlN (phM M c ns nm i) c ns nm)
    rw [r2, iw, Int32.add_assoc]
