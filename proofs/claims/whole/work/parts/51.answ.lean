/-! the letters' hour on both sides -/
def ltP (X Y : St) (c nm k : Nat) : Prop := ∃ m l : Nat, (m < nm ∧ l < szN X (8 * c + m)) ∧ X 16 (16 + c) (k * 3 + 0) = nI m ∧ X 16 (16 + c) (k * 3 + 1) = nI l ∧ Y 15 c (2 * k) = nI (40 * m + l) ∧ X 16 (16 + c) (k * 3 + 2) = Y 15 c (2 * k + 1) ∧ X 16 (8 * c + m) (l * 4 + 3) = 0
/-- a line is confirmed, or not -/
def tkR (Y : St) (c n : Nat) : St := if Y 14 c (4 * n + 2) < 8 then Y else mu (mu Y 14 c (4 * n + 3) 1) 11 c 0 (Y 11 c 0 + 1)
theorem meOk_t {X Y : St} {c m l ns : Nat} {v : Int32} (h : meOk X Y c m ns) (hl : l < szN X (8 * c + m)) : meOk (mu X 16 (8 * c + m) (l * 4 + 3) 1) (mu (mu Y 14 c (4 * (40 * m + l) + 3) 1) 11 c 0 v) c m ns := by
  obtain ⟨z1, z2, z3, z4⟩ := meOk_sz h
  obtain ⟨t, d, cr, a, L, ⟨hb, s12, s13, s10, s11, sN⟩, ⟨m1, m2, m3, m4, m5, m6, m7⟩, ⟨l1, l2, l3⟩, hli⟩ := h
  have e : szN X (8 * c + m) = L := nI_cl l2 (by omega)
  rw [e] at hl
  refine ⟨t, d, cr, a, L, ⟨hb, ?_, ?_, ?_, ?_, ?_⟩, ⟨?_, ?_, ?_, ?_, ?_, ?_, ?_⟩, ⟨l1, ?_, ?_⟩, fun k hk => ?_⟩
  · rw [mu_o (by omega)]; exact s12
  · rw [mu_o (by omega)]; exact s13
  · rw [mu_o (by omega)]; exact s10
  · rw [mu_o (by omega)]; exact s11
  · rw [mu_o (by omega), mu_o (by omega)]; exact sN
  · rw [mu_o (by omega)]; exact m1
  · rw [mu_o (by omega), mu_o (by omega)]; exact m2
  · rw [mu_o (by omega)]; exact m3
  · rw [mu_o (by omega), mu_o (by omega)]; exact m4
  · rw [mu_o (by omega), mu_o (by omega)]; exact m5
  · rw [mu_o (by omega), mu_o (by omega), mu_o (by omega)]; exact m6
  · rw [mu_o (by omega), mu_o (by omega)]; exact m7
  · rw [mu_o (by omega)]; exact l2
  · rw [mu_o (by omega), mu_o (by omega)]; exact l3
  · obtain ⟨k1, k2, k3⟩ := hli k hk
    rw [mu_o (show (14 : Nat) ≠ 11 by omega)]
    refine ⟨fun v hv => ?_, ?_, ?_⟩
    · by_cases hq : k * 4 + v = l * 4 + 3
      · rw [hq, mu_s, show 4 * (40 * m + k) + v = 4 * (40 * m + l) + 3 by omega, mu_s]
      · rw [mu_j hq, mu_j (by omega)]
        exact k1 v hv
    · rw [mu_j (by omega)]; exact k2
    · by_cases hq : k = l
      · subst hq; rw [mu_s]; exact Or.inr rfl
      · rw [mu_j (by omega)]; exact k3
theorem sumF_c {X X' : St} {t t' v : Nat} : ∀ L, (∀ k, k < L → X' 16 t' (k * 4 + v) = X 16 t (k * 4 + v)) → sumF X' t' v L = sumF X t v L
  | 0, _ => rfl
  | L + 1, h => by
    show sumF X' t' v L + _ = sumF X t v L + _
    rw [sumF_c L (fun k hk => h k (by omega)), h L (by omega)]
theorem sumF_t {X : St} {j l : Nat} (h0 : X 16 j (l * 4 + 3) = 0) : ∀ L, l < L → sumF (mu X 16 j (l * 4 + 3) 1) j 3 L = sumF X j 3 L + 1
  | 0, h => absurd h (by omega)
  | L + 1, h => by
    show sumF (mu X 16 j (l * 4 + 3) 1) j 3 L + mu X 16 j (l * 4 + 3) 1 16 j (L * 4 + 3) = sumF X j 3 L + X 16 j (L * 4 + 3) + 1
    by_cases hL : l = L
    · subst hL
      rw [mu_s, h0, sumF_c l (fun k hk => mu_j (by omega)), Int32.add_zero]
    · rw [sumF_t h0 L (by omega), mu_j (by omega), Int32.add_assoc, Int32.add_assoc, Int32.add_comm 1]
theorem solF_t {X : St} {c m l : Nat} (h0 : X 16 (8 * c + m) (l * 4 + 3) = 0) (hl : l < szN X (8 * c + m)) : ∀ i, solF (mu X 16 (8 * c + m) (l * 4 + 3) 1) c 3 i = solF X c 3 i + if m < i then 1 else 0
  | 0 => rfl
  | i + 1 => by
    have hsz : ∀ t, szN (mu X 16 (8 * c + m) (l * 4 + 3) 1) t = szN X t := fun t => by unfold szN; rw [mu_o (by omega)]
    show solF (mu X 16 (8 * c + m) (l * 4 + 3) 1) c 3 i + sumF (mu X 16 (8 * c + m) (l * 4 + 3) 1) (8 * c + i) 3 (szN _ (8 * c + i)) = solF X c 3 i + sumF X (8 * c + i) 3 (szN X (8 * c + i)) + _
    rw [hsz, solF_t h0 hl i]
    by_cases hm : m = i
    · subst hm
      rw [sumF_t h0 _ hl, if_neg (by omega), if_pos (by omega), Int32.add_zero, Int32.add_assoc]
    · rw [sumF_c (X := X) (t := 8 * c + i) _ (fun k hk => by rw [mu_ne (by omega)]), Int32.add_assoc, Int32.add_comm (if m < i then 1 else 0 : Int32), ← Int32.add_assoc]
      congr 1
      by_cases h : m < i
      · rw [if_pos h, if_pos (by omega)]
      · rw [if_neg h, if_neg (by omega)]
theorem conf_step {X Y : St} {c ns nm H m l : Nat} (h : clOk X Y c ns nm H) (hm : m < nm) (hl : l < szN X (8 * c + m)) (h0 : X 16 (8 * c + m) (l * 4 + 3) = 0) : clOk (takF X (8 * c + m) l) (tkR Y c (40 * m + l)) c ns nm H ∧ ∃ g, tkR Y c (40 * m + l) 11 c 0 = Y 11 c 0 + g ∧ solF (takF X (8 * c + m) l) c 3 nm = solF X c 3 nm + g := by
  have hme := h.2.2.1 m hm
  obtain ⟨z1, z2, z3, z4⟩ := meOk_sz hme
  have hs : X 16 (8 * c + m) (l * 4 + 2) = Y 14 c (4 * (40 * m + l) + 2) := by
    obtain ⟨t, d, cr, a, L, -, -, ⟨l1, l2, l3⟩, hli⟩ := hme
    have e : szN X (8 * c + m) = L := nI_cl l2 (by omega)
    exact (hli l (by omega)).1 2 (by omega)
  unfold takF tkR
  rw [hs]
  by_cases hb : Y 14 c (4 * (40 * m + l) + 2) < 8
  · rw [if_pos hb, if_pos hb]
    exact ⟨h, 0, (Int32.add_zero _).symm, (Int32.add_zero _).symm⟩
  · rw [if_neg hb, if_neg hb]
    refine ⟨⟨h.1, fun k hk => stOk_c (h.2.1 k hk) (mu_o (by omega)) (by rw [mu_o (by omega), mu_o (by omega)]), fun i hi => ?_, by rw [mu_o (by omega)]; exact h.2.2.2.1, by rw [mu_o (by omega), mu_o (by omega)]; exact h.2.2.2.2⟩, 1, mu_s, by rw [solF_t h0 hl, if_pos hm]⟩
    by_cases him : i = m
    · subst him; exact meOk_t hme hl
    · refine meOk_c (h.2.2.1 i hi) (fun f h1 h2 => mu_ne (by omega)) (by rw [mu_o (by omega), mu_o (by omega)]) (by rw [mu_o (by omega), mu_o (by omega)]) (by rw [mu_o (by omega), mu_o (by omega)]) (by rw [mu_o (by omega), mu_o (by omega)]) (by rw [mu_o (by omega), mu_o (by omega)]) (by rw [mu_o (by omega), mu_o (by omega)]) (fun b h1 h2 => by rw [mu_o (by omega), mu_j (by omega)])
/-- which letters are there when the first k were looked at and u kept -/
def liveP (k u q j : Nat) : Prop := j < u ∨ (k ≤ j ∧ j < q)
def anI (X Y : St) (c ns nm H k u q : Nat) : Prop := u ≤ k ∧ clOk X Y c ns nm H ∧ (∀ j, liveP k u q j → ltP X Y c nm j) ∧ ∀ j1 j2, liveP k u q j1 → liveP k u q j2 → j1 ≠ j2 → ¬ Y 15 c (2 * j1) = Y 15 c (2 * j2)
theorem an_due {X Y : St} {c ns nm H k u q m l : Nat} (hc : c < 2) (h : anI X Y c ns nm H k u q) (hk : k < q) (hm : X 16 (16 + c) (k * 3 + 0) = nI m) (hl : X 16 (16 + c) (k * 3 + 1) = nI l) (hm2 : m < 2 ^ 31) (hl2 : l < 2 ^ 31) : anI (takF X (8 * c + m) l) (tkR Y c (40 * m + l)) c ns nm H (k + 1) u q ∧ ∃ g, tkR Y c (40 * m + l) 11 c 0 = Y 11 c 0 + g ∧ solF (takF X (8 * c + m) l) c 3 nm = solF X c 3 nm + g := by
  obtain ⟨hu, hcl, hlt, hne⟩ := h
  obtain ⟨m', l', ⟨a1, a2⟩, a3, a4, a5, a6, a7⟩ := hlt k (Or.inr ⟨Nat.le_refl k, hk⟩)
  have hn := hcl.1
  have hs := (meOk_sz (hcl.2.2.1 m' a1)).2.1
  have em : m' = m := nI_inj (by omega) hm2 (a3.symm.trans hm)
  have el : l' = l := nI_inj (by omega) hl2 (a4.symm.trans hl)
  subst em; subst el
  obtain ⟨r1, r2⟩ := conf_step hcl a1 a2 a7
  refine ⟨⟨by omega, r1, fun j hj => ?_, fun j1 j2 h1 h2 h3 => ?_⟩, r2⟩
  · have hj' : liveP k u q j := hj.imp id (fun z => ⟨by omega, z.2⟩)
    have hjk : j ≠ k := by rcases hj with z | z <;> omega
    obtain ⟨mj, lj, ⟨b1, b2⟩, b3, b4, b5, b6, b7⟩ := hlt j hj'
    have hd := hne j k hj' (Or.inr ⟨Nat.le_refl k, hk⟩) hjk
    have hX : ∀ f a, ¬ (f = 16 ∧ a = 8 * c + m') → takF X (8 * c + m') l' f a = X f a := fun f a z => takF_of z
    have hY : tkR Y c (40 * m' + l') 15 = Y 15 := by
      unfold tkR
      split
      · rfl
      · rw [mu_o (by omega), mu_o (by omega)]
    have hsz : ∀ t, szN (takF X (8 * c + m') l') t = szN X t := fun t => by unfold szN; rw [hX 15 t (by omega)]
    refine ⟨mj, lj, ⟨b1, by rw [hsz]; exact b2⟩, by rw [hX _ _ (by omega)]; exact b3, by rw [hX _ _ (by omega)]; exact b4, by rw [hY]; exact b5, by rw [hX _ _ (by omega), hY]; exact b6, ?_⟩
    have hml : ¬ (mj = m' ∧ lj = l') := fun z => hd (by rw [b5, a5, z.1, z.2])
    unfold takF
    split
    · exact b7
    · by_cases z : mj = m'
      · subst z
        rw [mu_j (by omega)]
        exact b7
      · rw [mu_ne (by omega)]
        exact b7
  · have hY : tkR Y c (40 * m' + l') 15 = Y 15 := by
      unfold tkR
      split
      · rfl
      · rw [mu_o (by omega), mu_o (by omega)]
    rw [hY]
    exact hne j1 j2 (h1.imp id (fun z => ⟨by omega, z.2⟩)) (h2.imp id (fun z => ⟨by omega, z.2⟩)) h3
theorem an_keep {X Y : St} {c ns nm H k u q m l : Nat} (hc : c < 2) (h : anI X Y c ns nm H k u q) (hk : k < q) (hm : X 16 (16 + c) (k * 3 + 0) = nI m) (hl : X 16 (16 + c) (k * 3 + 1) = nI l) (hm2 : m < 2 ^ 31) (hl2 : l < 2 ^ 31) : anI (cpR X (16 + c) k u) (mu (mu Y 15 c (2 * u) (nI (40 * m + l))) 15 c (2 * u + 1) (Y 15 c (2 * k + 1))) c ns nm H (k + 1) (u + 1) q ∧ solF (cpR X (16 + c) k u) c 3 nm = solF X c 3 nm := by
  obtain ⟨hu, hcl, hlt, hne⟩ := h
  obtain ⟨m', l', ⟨a1, a2⟩, a3, a4, a5, a6, a7⟩ := hlt k (Or.inr ⟨Nat.le_refl k, hk⟩)
  have hn := hcl.1
  have hs := (meOk_sz (hcl.2.2.1 m' a1)).2.1
  have em : m' = m := nI_inj (by omega) hm2 (a3.symm.trans hm)
  have el : l' = l := nI_inj (by omega) hl2 (a4.symm.trans hl)
  subst em; subst el
  have hX : ∀ f a, ¬ (f = 16 ∧ a = 16 + c) → cpR X (16 + c) k u f a = X f a := fun f a z => funext fun b => cpR_of (fun y => z ⟨y.1, y.2.1⟩)
  have hXj : ∀ b, ¬ (u * 3 ≤ b ∧ b < u * 3 + 3) → cpR X (16 + c) k u 16 (16 + c) b = X 16 (16 + c) b := fun b z => cpR_of (fun y => z y.2.2)
  have hX0 : ∀ b, b < 3 → cpR X (16 + c) k u 16 (16 + c) (u * 3 + b) = X 16 (16 + c) (k * 3 + b) := by
    intro b hb
    unfold cpR
    rcases (show b = 0 ∨ b = 1 ∨ b = 2 by omega) with rfl | rfl | rfl
    · rw [mu_j (by omega), mu_j (by omega)]; exact mu_s
    · rw [mu_j (by omega), mu_s]
    · rw [mu_s]
  have hY : ∀ f, f ≠ 15 → mu (mu Y 15 c (2 * u) (nI (40 * m' + l'))) 15 c (2 * u + 1) (Y 15 c (2 * k + 1)) f = Y f := fun f z => by rw [mu_o z, mu_o z]
  have hYj : ∀ b, ¬ (b = 2 * u) → ¬ (b = 2 * u + 1) → mu (mu Y 15 c (2 * u) (nI (40 * m' + l'))) 15 c (2 * u + 1) (Y 15 c (2 * k + 1)) 15 c b = Y 15 c b := fun b z1 z2 => by rw [mu_j z2, mu_j z1]
  have hY0 : mu (mu Y 15 c (2 * u) (nI (40 * m' + l'))) 15 c (2 * u + 1) (Y 15 c (2 * k + 1)) 15 c (2 * u) = Y 15 c (2 * k) := by rw [mu_j (by omega), mu_s, a5]
  have hY1 : mu (mu Y 15 c (2 * u) (nI (40 * m' + l'))) 15 c (2 * u + 1) (Y 15 c (2 * k + 1)) 15 c (2 * u + 1) = Y 15 c (2 * k + 1) := by rw [mu_s]
  have hsz : ∀ t, szN (cpR X (16 + c) k u) t = szN X t := fun t => by unfold szN; rw [hX 15 t (by omega)]
  generalize cpR X (16 + c) k u = X' at *
  generalize mu (mu Y 15 c (2 * u) (nI (40 * m' + l'))) 15 c (2 * u + 1) (Y 15 c (2 * k + 1)) = Y' at *
  have lift : ∀ j, liveP (k + 1) (u + 1) q j → ∃ j', liveP k u q j' ∧ (∀ b, b < 3 → X' 16 (16 + c) (j * 3 + b) = X 16 (16 + c) (j' * 3 + b)) ∧ Y' 15 c (2 * j) = Y 15 c (2 * j') ∧ Y' 15 c (2 * j + 1) = Y 15 c (2 * j' + 1) ∧ ((j = u ∧ j' = k) ∨ (j ≠ u ∧ j' = j ∧ j' ≠ k)) := by
    intro j hj
    by_cases hju : j = u
    · subst hju
      exact ⟨k, Or.inr ⟨Nat.le_refl k, hk⟩, hX0, hY0, hY1, Or.inl ⟨rfl, rfl⟩⟩
    · have hjk : j ≠ k := by rcases hj with z | z <;> omega
      refine ⟨j, ?_, fun b hb => hXj _ (by omega), hYj _ (by omega) (by omega), hYj _ (by omega) (by omega), Or.inr ⟨hju, rfl, hjk⟩⟩
      rcases hj with z | z
      · exact Or.inl (by omega)
      · exact Or.inr (by omega)
  refine ⟨⟨by omega, ⟨hcl.1, fun i hi => stOk_c (hcl.2.1 i hi) (funext fun a => hX 0 a (by omega)) (hY 0 (by omega)), fun i hi => ?_, by rw [hX _ _ (by omega)]; exact hcl.2.2.2.1, by rw [hY _ (by omega)]; exact hcl.2.2.2.2⟩, fun j hj => ?_, fun j1 j2 h1 h2 h3 => ?_⟩, ?_⟩
  · exact meOk_c (hcl.2.2.1 i hi) (fun f h1 h2 => hX f _ (by omega)) (by rw [hY _ (by omega)]) (by rw [hY _ (by omega)]) (by rw [hY _ (by omega)]) (by rw [hY _ (by omega)]) (by rw [hY _ (by omega)]) (by rw [hY _ (by omega)]) (fun b _ _ => by rw [hY _ (by omega)])
  · obtain ⟨j', w1, w2, w3, w4, -⟩ := lift j hj
    obtain ⟨mj, lj, ⟨b1, b2⟩, b3, b4, b5, b6, b7⟩ := hlt j' w1
    exact ⟨mj, lj, ⟨b1, by rw [hsz]; exact b2⟩, by rw [w2 0 (by omega)]; exact b3, by rw [w2 1 (by omega)]; exact b4, by rw [w3]; exact b5, by rw [w2 2 (by omega), w4]; exact b6, by rw [hX 16 _ (by omega)]; exact b7⟩
  · obtain ⟨j1', v1, -, v3, -, v5⟩ := lift j1 h1
    obtain ⟨j2', w1, -, w3, -, w5⟩ := lift j2 h2
    rw [v3, w3]
    exact hne j1' j2' v1 w1 (by omega)
  · have : ∀ i, i ≤ nm → solF X' c 3 i = solF X c 3 i := by
      intro i
      induction i with
      | zero => intro _; rfl
      | succ i ih =>
        intro hi
        show solF X' c 3 i + sumF X' (8 * c + i) 3 (szN X' (8 * c + i)) = solF X c 3 i + sumF X (8 * c + i) 3 (szN X (8 * c + i))
        rw [ih (by omega), hsz, sumF_c (X := X) (t := 8 * c + i) _ (fun k hk => by rw [hX _ _ (by omega)])]
    exact this nm (Nat.le_refl nm)
