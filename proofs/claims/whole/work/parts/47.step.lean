/-! a club's state on both sides; a member's line in an hour -/
def clOk (M N : St) (c ns nm H : Nat) : Prop := (ns ≤ 12 ∧ nm ≤ 8) ∧ (∀ k, k < ns → stOk M N k) ∧ (∀ i, i < nm → meOk M N c i ns) ∧ M 3 c 0 = nI H ∧ N 8 c 0 = nI H
theorem stOk_c {M N M' N' : St} {k : Nat} (h : stOk M N k) (hM : M' 0 = M 0) (hN : N' 0 = N 0) : stOk M' N' k := by
  unfold stOk at h ⊢
  rw [hM, hN]
  exact h
theorem onR_c {N N' : St} {h : Int32} (e : N' 0 = N 0) : ∀ n, onR N' h n = onR N h n
  | 0 => rfl
  | n + 1 => by
    unfold onR
    rw [onR_c e n, e]
theorem liR_o {M : St} {c i L k f : Nat} (h : f ≠ 14) (h2 : f ≠ 13) (h3 : f ≠ 10) : liR M c i L k f = M f := funext fun a => liR_of (by omega) (by omega) (by omega)
theorem heaM_of {M : St} {c j ns f a : Nat} {h : Int32} (hf : f < 4 ∨ 7 < f) : heaM M c j h ns f a = M f a := funext fun b => setQ_of (by omega)
theorem w_step {X Y : St} {c ns nm H i s : Nat} (h : clOk X Y c ns nm H) (hH : H < 1000000) (hi : i < nm) (hs : X 15 (8 * c + i) 0 = nI s) (hs2 : s < 40) : clOk (wrlM X c (8 * c + i) s ns) (hsR Y c i s ns (onR Y (nI H) ns)) c ns nm H ∧ hsR Y c i s ns (onR Y (nI H) ns) 10 c 0 = Y 10 c 0 + wrlR X c (8 * c + i) s ns ∧ (wrlR X c (8 * c + i) s ns = 0 ∨ wrlR X c (8 * c + i) s ns = 1) := by
  obtain ⟨⟨hn1, hn2⟩, hst, hme, hx, hy⟩ := h
  have hZ : ∀ f, 8 ≤ f → f ≤ 16 → ∀ a, heaM X c (8 * c + i) (nI H) ns f a = X f a := fun f h1 h2 a => heaM_of (by omega)
  have hZst : ∀ k, k < ns → stOk (heaM X c (8 * c + i) (nI H) ns) Y k := fun k hk => stOk_c (hst k hk) (funext fun a => heaM_of (by omega)) rfl
  have hZme : ∀ m, m < nm → meOk (heaM X c (8 * c + i) (nI H) ns) Y c m ns := fun m hm => meOk_c (hme m hm) (fun f h1 h2 => hZ f h1 h2 _) rfl rfl rfl rfl rfl rfl (fun _ _ _ => rfl)
  have hZ3 : heaM X c (8 * c + i) (nI H) ns 3 c 0 = nI H := by rw [heaM_of (by omega)]; exact hx
  have hZ15 : heaM X c (8 * c + i) (nI H) ns 15 (8 * c + i) 0 = nI s := by rw [heaM_of (by omega)]; exact hs
  have hZc : clOk (heaM X c (8 * c + i) (nI H) ns) Y c ns nm H := ⟨⟨hn1, hn2⟩, hZst, hZme, hZ3, hy⟩
  obtain ⟨t, d, cr, a, L, hse, ⟨m1, m2, m3, m4, m5, m6, m7⟩, ⟨l1, l2, l3⟩, hl⟩ := hme i hi
  have hL : L = s := nI_inj (by omega) (by omega) (l2.symm.trans hs)
  subst hL
  have hv : verQ (heaF X (8 * c + i) (nI H) ns) = heR Y i (nI H) (nI t) (nI d) (nI cr) (onR Y (nI H) ns) ns := hear_eq hst hse hH hn1
  have hq : getQ (heaM X c (8 * c + i) (nI H) ns) c = heaF X (8 * c + i) (nI H) ns := getQ_s
  have h6 : heaM X c (8 * c + i) (nI H) ns 6 c 0 = (heaF X (8 * c + i) (nI H) ns).2.2.1 := congrArg (fun q : hQ => q.2.2.1) hq
  unfold wrlM wrlR hsR
  rw [hx]
  dsimp only
  rw [hq, hy, m2, m4, m5, hZ3, hv]
  by_cases h0 : heR Y i (nI H) (nI t) (nI d) (nI cr) (onR Y (nI H) ns) ns < 0
  · rw [if_pos h0, if_pos h0, if_pos h0]
    exact ⟨hZc, (Int32.add_zero _).symm, Or.inl rfl⟩
  · rw [if_neg h0, if_neg h0, if_neg h0]
    obtain ⟨k, hk, ek⟩ := heR_k h0
    obtain ⟨-, hstr⟩ := hear_str (k := k) hst hse hH hn1 (by omega) ek
    rw [ek, nI_clamp (by omega)]
    have hin : b2 (hasP (heaM X c (8 * c + i) (nI H) ns) (8 * c + i) (nI k) (nI H / 24) L) = b2 (inR Y c i (nI k) L) := by
      have e := in_eq (M := heaM X c (8 * c + i) (nI H) ns) (N := Y) (c := c) (i := i) (ns := ns) (L := L) (fun k hk => by rw [heaM_of (by omega)]; exact hl k hk) (hZ3.trans hy.symm) (nI k)
      rw [hZ3] at e
      exact b2_c e
    rw [hin]
    by_cases hb : b2 (inR Y c i (nI k) L) = 0
    · rw [if_pos hb, if_pos hb, if_pos hb, h6, hstr]
      have hY : ∀ f, f ≠ 14 → f ≠ 13 → f ≠ 10 → liR Y c i L k f = Y f := fun f h1 h2 h3 => liR_o h1 h2 h3
      have h13 : ∀ m, liR Y c i L k 13 c m = if m = i then nI (L + 1) else Y 13 c m := by
        intro m
        unfold liR
        rw [mu_o (by omega)]
        by_cases hm : m = i
        · subst hm; rw [if_pos rfl]; exact mu_s
        · rw [if_neg hm, mu_j hm, mu_o (by omega), mu_o (by omega), mu_o (by omega), mu_o (by omega)]
      have h14 : ∀ b, ¬ (4 * (40 * i + L) ≤ b ∧ b < 4 * (40 * i + L) + 4) → liR Y c i L k 14 c b = Y 14 c b := by
        intro b hb
        unfold liR
        rw [mu_o (by omega), mu_o (by omega), mu_j (by omega), mu_j (by omega), mu_j (by omega), mu_j (by omega)]
      refine ⟨⟨⟨hn1, hn2⟩, fun u hu => stOk_c (hZst u hu) ?_ (hY 0 (by omega) (by omega) (by omega)), fun m hm => ?_, ?_, ?_⟩, ?_, Or.inr rfl⟩
      · unfold adlF
        rw [mu_o (by omega), mu_o (by omega), mu_o (by omega), mu_o (by omega), mu_o (by omega)]
      · by_cases hmi : m = i
        · subst hmi
          refine meOk_add (hZme m hm) hZ15 hs2 hk rfl (by rw [hY 4 (by omega) (by omega) (by omega)]) (by rw [hY 5 (by omega) (by omega) (by omega)]) (by rw [hY 6 (by omega) (by omega) (by omega)]) (by rw [hY 7 (by omega) (by omega) (by omega)]) (by rw [hY 12 (by omega) (by omega) (by omega)]) (by rw [h13, if_pos rfl]) ?_ ?_ ?_ ?_ (fun b hb1 hb2 => h14 b (by omega))
          · unfold liR
            rw [mu_o (by omega), mu_o (by omega), mu_j (by omega), mu_j (by omega), mu_j (by omega), mu_s]
            exact hy
          · unfold liR
            rw [mu_o (by omega), mu_o (by omega), mu_j (by omega), mu_j (by omega), mu_s]
          · unfold liR
            rw [mu_o (by omega), mu_o (by omega), mu_j (by omega), mu_s, hy, m2, m4, m5]
          · unfold liR
            rw [mu_o (by omega), mu_o (by omega), mu_s]
        · refine meOk_c (hZme m hm) (fun f h1 h2 => ?_) (by rw [hY 4 (by omega) (by omega) (by omega)]) (by rw [hY 5 (by omega) (by omega) (by omega)]) (by rw [hY 6 (by omega) (by omega) (by omega)]) (by rw [hY 7 (by omega) (by omega) (by omega)]) (by rw [hY 12 (by omega) (by omega) (by omega)]) (by rw [h13, if_neg hmi]) (fun b hb1 hb2 => h14 b (by omega))
          unfold adlF
          rw [mu_ne (by omega), mu_ne (by omega), mu_ne (by omega), mu_ne (by omega), mu_ne (by omega)]
      · unfold adlF
        rw [mu_o (by omega), mu_o (by omega), mu_o (by omega), mu_o (by omega), mu_o (by omega)]
        exact hZ3
      · rw [hY 8 (by omega) (by omega) (by omega)]; exact hy
      · unfold liR
        rw [mu_s]
    · rw [if_neg hb, if_neg hb, if_neg hb]
      exact ⟨hZc, (Int32.add_zero _).symm, Or.inl rfl⟩
