/-! the crystals' hour, both sides -/
theorem wear_tab : ∀ cr, cr < 10 → (if 0 < nI cr - 0 then nI cr - 0 else 0) = nI cr ∧ (if 0 < nI cr - 1 then nI cr - 1 else (0 : Int32)) = nI (cr - 1) ∧ (nI cr ≤ 0 → cr = 0) ∧ (¬ nI cr ≤ 0 → nI cr - 1 = nI (cr - 1)) := by decide
theorem wear_step {X Y : St} {c ns nm H i : Nat} (h : clOk X Y c ns nm H) (hi : i < nm) : clOk (weaF X (8 * c + i)) (mu Y 12 c i (if 0 < Y 12 c i - Y 7 0 i then Y 12 c i - Y 7 0 i else 0)) c ns nm H := by
  obtain ⟨⟨hn1, hn2⟩, hst, hme, hx, hy⟩ := h
  have hX : ∀ f, f ≠ 11 → weaF X (8 * c + i) f = X f := fun f hf => weaF_of hf
  have hXa : ∀ f a, a ≠ 8 * c + i → weaF X (8 * c + i) f a = X f a := by
    intro f a ha
    unfold weaF
    split
    · rfl
    · split
      · rfl
      · exact mu_ne (fun z => ha z.2)
  refine ⟨⟨hn1, hn2⟩, fun k hk => stOk_c (hst k hk) (hX 0 (by omega)) (mu_o (by omega)), fun m hm => ?_, by rw [hX 3 (by omega)]; exact hx, by rw [mu_o (by omega)]; exact hy⟩
  by_cases hmi : m = i
  · subst hmi
    obtain ⟨t, d, cr, a, L, ⟨⟨b1, b2, b3, b4, b5⟩, s12, s13, s10, s11, sN⟩, ⟨m1, m2, m3, m4, m5, m6, m7⟩, ⟨l1, l2, l3⟩, hl⟩ := hme m hm
    obtain ⟨t1, t2, t3, t4⟩ := wear_tab cr (by omega)
    obtain ⟨cr2, hcr2, e1, e2⟩ : ∃ cr2, cr2 ≤ 9 ∧ weaF X (8 * c + m) 11 (8 * c + m) 0 = nI cr2 ∧ (if 0 < Y 12 c m - Y 7 0 m then Y 12 c m - Y 7 0 m else 0) = nI cr2 := by
      unfold weaF
      rw [m5, m6, s11]
      rcases m7 with e | e
      · rw [e, if_pos rfl]
        exact ⟨cr, b4, s11, t1⟩
      · rw [e, if_neg (by decide)]
        by_cases hz : nI cr ≤ 0
        · rw [if_pos hz]
          exact ⟨cr - 1, by omega, by rw [s11, t3 hz], t2⟩
        · rw [if_neg hz]
          exact ⟨cr - 1, by omega, by rw [mu_s]; exact t4 hz, t2⟩
    refine ⟨t, d, cr2, a, L, ⟨⟨b1, b2, b3, hcr2, b5⟩, ?_, ?_, ?_, e1, ?_⟩, ⟨?_, ?_, ?_, ?_, ?_, ?_, ?_⟩, ⟨l1, ?_, ?_⟩, fun k hk => ?_⟩
    · rw [hX 12 (by omega)]; exact s12
    · rw [hX 13 (by omega)]; exact s13
    · rw [hX 10 (by omega)]; exact s10
    · rw [mu_o (by omega)]; exact sN
    · rw [hX 8 (by omega)]; exact m1
    · rw [mu_o (by omega)]; exact m2
    · rw [hX 9 (by omega)]; exact m3
    · rw [mu_o (by omega)]; exact m4
    · rw [mu_s]; exact e2
    · rw [hX 14 (by omega), mu_o (by omega)]; exact m6
    · rw [mu_o (by omega)]; exact m7
    · rw [hX 15 (by omega)]; exact l2
    · rw [mu_o (by omega)]; exact l3
    · rw [hX 16 (by omega), mu_o (by omega)]; exact hl k hk
  · exact meOk_c (hme m hm) (fun f h1 h2 => hXa f _ (by omega)) (by rw [mu_o (by omega)]) (by rw [mu_o (by omega)]) (by rw [mu_o (by omega)]) (by rw [mu_o (by omega)]) (mu_j hmi) (by rw [mu_o (by omega)]) (fun b _ _ => by rw [mu_o (by omega)])
theorem wear_all {X Y : St} {c ns nm H : Nat} (h : clOk X Y c ns nm H) : ∀ i, i ≤ nm → clOk (wcM X c i) (wrR Y c i) c ns nm H
  | 0, _ => h
  | i + 1, hi => wear_step (wear_all h i (by omega)) (by omega)
theorem wear_eq {X Y : St} {c ns nm H : Nat} (h : clOk X Y c ns nm H) : clOk (wearF X c nm) (weR Y c nm) c ns nm H := by
  unfold wearF weR
  rw [h.2.2.2.1, h.2.2.2.2]
  split
  · exact wear_all h nm (Nat.le_refl _)
  · exact h
