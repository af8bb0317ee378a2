/-! rank, mean, digest on both sides -/
theorem cmp_0 {a b : Int32} : cmpF a b = 0 ↔ a = b := by
  unfold cmpF
  by_cases h : b ≤ a
  · rw [if_pos h]
    by_cases e : a = b
    · rw [if_pos e]; exact ⟨fun _ => e, fun _ => rfl⟩
    · rw [if_neg e]; exact ⟨fun z => absurd z (by decide), fun z => absurd z e⟩
  · rw [if_neg h]
    exact ⟨fun z => absurd z (by decide), fun z => absurd (z ▸ Int32.le_refl a) h⟩
theorem cmp_le {a b : Int32} : cmpF a b ≤ 0 ↔ a ≤ b := by
  unfold cmpF
  by_cases h : b ≤ a
  · rw [if_pos h]
    by_cases e : a = b
    · rw [if_pos e]; exact ⟨fun _ => e ▸ Int32.le_refl a, fun _ => Int32.le_refl 0⟩
    · rw [if_neg e]
      exact ⟨fun z => absurd z (by decide), fun z => absurd (Int32.le_antisymm z h) e⟩
  · rw [if_neg h]
    exact ⟨fun _ => Int32.le_of_lt (Int32.not_le.mp h), fun _ => by decide⟩
theorem hd_nat {M N : St} {i ns : Nat} (hst : ∀ k, k < ns → stOk M N k) : ∀ n, n ≤ ns → ∃ s, s ≤ 50 * n ∧ hdR N i 1 n = nI s
  | 0, _ => ⟨0, by omega, rfl⟩
  | n + 1, h => by
    obtain ⟨s, hs, e⟩ := hd_nat (i := i) hst n (by omega)
    obtain ⟨fr, pw, fa, fm, ho, ph, ⟨b1, b2, b3, b4, b5, b6, b7⟩, -, ⟨n0, n1, n2, n3, n4, n5⟩⟩ := hst n (by omega)
    unfold hdR
    rw [e, n2, if_neg (show ¬ (1 : Int32) = 0 by decide)]
    split
    · exact ⟨s, by omega, rfl⟩
    · exact ⟨s + fa, by omega, nI_add s fa⟩
theorem sub_0 {a b : Nat} (ha : a < 2 ^ 30) (hb : b < 2 ^ 30) : (nI a - nI b = 0 ↔ nI a = nI b) ∧ (nI a - nI b ≤ 0 ↔ nI a ≤ nI b) := by
  have e := pk_sub_toInt ha hb
  constructor
  · rw [← Int32.toInt_inj, ← Int32.toInt_inj, e, nI_toInt (by omega), nI_toInt (by omega), show (0 : Int32).toInt = 0 from rfl]
    omega
  · rw [i_le, i_le, e, nI_toInt (by omega), nI_toInt (by omega), show (0 : Int32).toInt = 0 from rfl]
    omega
theorem lds_eq {M N : St} {ns nm a b : Nat} (hst : ∀ k, k < ns → stOk M N k) (hme : ∀ i, i < nm → meOk M N 0 i ns) (hn : ns ≤ 12) (ha : a < nm) (hb : b < nm) : ldsF M 0 ns a b = ldR N ns a b := by
  obtain ⟨sa, hsa, ea⟩ := hd_nat (i := a) hst ns (Nat.le_refl ns)
  obtain ⟨sb, hsb, eb⟩ := hd_nat (i := b) hst ns (Nat.le_refl ns)
  have xa : scoJ M (8 * 0 + a) ns = nI sa := (sco_eq hst (hme a ha) hn ns (Nat.le_refl ns)).trans ea
  have xb : scoJ M (8 * 0 + b) ns = nI sb := (sco_eq hst (hme b hb) hn ns (Nat.le_refl ns)).trans eb
  have la : M 15 (8 * 0 + a) 0 = N 13 0 a := by rw [(meOk_sz (hme a ha)).1, (meOk_sz (hme a ha)).2.2.1]
  have lb : M 15 (8 * 0 + b) 0 = N 13 0 b := by rw [(meOk_sz (hme b hb)).1, (meOk_sz (hme b hb)).2.2.1]
  obtain ⟨z1, z2⟩ := sub_0 (a := sa) (b := sb) (by omega) (by omega)
  unfold ldsF ldR
  rw [xa, xb, la, lb, ea, eb]
  simp only [cmp_0, cmp_le, z1, z2]
theorem ldr_eq {M N : St} {ns nm b : Nat} (hst : ∀ k, k < ns → stOk M N k) (hme : ∀ i, i < nm → meOk M N 0 i ns) (hn : ns ≤ 12) (hb : b < nm) : ∀ n, n ≤ nm → ldrF M 0 ns b n = lcR N ns b n
  | 0, _ => rfl
  | n + 1, h => by
    unfold ldrF lcR
    rw [ldr_eq hst hme hn hb n (by omega), lds_eq hst hme hn (show n < nm by omega) hb]
    by_cases z : nI n = nI b
    · rw [if_pos z, if_pos z, Int32.add_zero]
    · rw [if_neg z, if_neg z]
      by_cases w : ldR N ns n b = 0
      · rw [if_pos w, if_pos w, Int32.add_zero]
      · rw [if_neg w, if_neg w]
theorem map_eq {M N : St} {ns nm : Nat} {x : Int32} (hst : ∀ k, k < ns → stOk M N k) (hme : ∀ i, i < nm → meOk M N 0 i ns) (hn : ns ≤ 12) : ∀ q i, i + q ≤ nm → mapF M 0 ns nm x q i = rkR N ns nm x q i
  | 0, _, _ => rfl
  | q + 1, i, h => by
    unfold mapF rkR
    rw [ldr_eq hst hme hn (show i < nm by omega) nm (Nat.le_refl nm), map_eq hst hme hn q (i + 1) (by omega)]
theorem rank_told {M N : St} {ns nm H : Nat} (h : Rel M N ns nm H) (x : Int32) : mapF M 0 ns nm x nm 0 = rkR N ns nm x nm 0 :=
  map_eq h.1.1.2.1 h.1.1.2.2.1 h.1.1.1.1 nm 0 (by omega)
/-- mean -/
theorem all_nat {M N : St} {ns nm : Nat} (hme : ∀ i, i < nm → meOk M N 0 i ns) : ∀ n, n ≤ nm → ∃ w, w ≤ 40 * n ∧ allF M 0 n = nI w
  | 0, _ => ⟨0, by omega, rfl⟩
  | n + 1, h => by
    obtain ⟨w, hw, e⟩ := all_nat hme n (by omega)
    obtain ⟨z1, z2, -⟩ := meOk_sz (hme n (by omega))
    unfold allF
    rw [e, z1]
    exact ⟨w + szN M (8 * 0 + n), by omega, nI_add _ _⟩
theorem msI_eq {M N : St} {i ns : Nat} {s : Int32} (h : meOk M N 0 i ns) : ∀ L, L ≤ szN M (8 * 0 + i) → msI N i s L = s + sumF M (8 * 0 + i) 2 L
  | 0, _ => (Int32.add_zero s).symm
  | L + 1, hL => by
    unfold msI sumF
    rw [msI_eq h L (by omega), (liOk_of h L (by omega)).1 2 (by omega), Int32.add_assoc]
theorem msO_eq {M N : St} {ns nm : Nat} (hme : ∀ i, i < nm → meOk M N 0 i ns) : ∀ n, n ≤ nm → msO N n = solF M 0 2 n
  | 0, _ => rfl
  | n + 1, h => by
    unfold msO solF
    rw [(meOk_sz (hme n (by omega))).2.2.2, msI_eq (hme n (by omega)) _ (Nat.le_refl _), msO_eq hme n (by omega)]
theorem mean_told {M N : St} {ns nm H : Nat} (h : Rel M N ns nm H) : mnF M nm = mnR N nm := by
  obtain ⟨⟨hn1, hn2⟩, hst, hme, hx, hy⟩ := h.1.1
  obtain ⟨w, hw, e⟩ := all_nat hme nm (Nat.le_refl nm)
  have hc := h.1.2.2.1
  unfold mnF mnR
  rw [msO_eq hme nm (Nat.le_refl nm), hc, e]
  by_cases z : w = 0
  · subst z
    rw [if_pos (show nI 0 ≤ 0 from Int32.le_refl 0), if_pos (show nI 0 = 0 from rfl)]
  · rw [if_neg, if_neg]
    · intro z2
      exact z (nI_inj (a := w) (b := 0) (by omega) (by omega) z2)
    · intro z2
      have := i_le.mp z2
      rw [nI_toInt (by omega), show (0 : Int32).toInt = 0 from rfl] at this
      omega
/-- digest -/
theorem dgN_c {f g : Nat → Int32} {d : Int64} : ∀ n, (∀ k, k < n → f k = g k) → dgN f d n = dgN g d n
  | 0, _ => rfl
  | n + 1, h => by
    unfold dgN
    rw [dgN_c n (fun k hk => h k (by omega)), h n (by omega)]
theorem dgN_add {f : Nat → Int32} {d : Int64} {n : Nat} : ∀ m, dgN f d (n + m) = dgN (fun k => f (n + k)) (dgN f d n) m
  | 0 => rfl
  | m + 1 => by
    show dgN f d (n + m) * 31 + (f (n + m)).toInt64 = dgN (fun k => f (n + k)) (dgN f d n) m * 31 + (f (n + m)).toInt64
    rw [dgN_add m]
theorem dgT_eq {M N : St} {i ns : Nat} {d : Int64} (h : meOk M N 0 i ns) : ∀ L, L ≤ szN M (8 * 0 + i) → dgT M (8 * 0 + i) 4 d L = dgN (fun k => N 14 0 (160 * i + k)) d (4 * L)
  | 0, _ => rfl
  | L + 1, hL => by
    have ih := dgT_eq (d := d) h L (by omega)
    have e4 : dgN (fun k => N 14 0 (160 * i + k)) d (4 * (L + 1)) = dgN (fun k => N 14 0 (160 * i + (4 * L + k))) (dgN (fun k => N 14 0 (160 * i + k)) d (4 * L)) 4 := dgN_add (n := 4 * L) 4
    rw [e4, ← ih]
    show dgN (fun k => M 16 (8 * 0 + i) (L * 4 + k)) (dgT M (8 * 0 + i) 4 d L) 4 = _
    refine dgN_c 4 (fun k hk => ?_)
    rw [(liOk_of h L (by omega)).1 k hk, show 4 * (40 * i + L) + k = 160 * i + (4 * L + k) by omega]
theorem dgS_eq {M N : St} {ns nm H : Nat} {d : Int64} (h : Rel M N ns nm H) (hH : H < 1000000) : ∀ n, n ≤ ns → dgS M 0 nm d n = dsR N ns nm d n
  | 0, _ => rfl
  | n + 1, hn => by
    unfold dgS dsR
    rw [dgS_eq h hH n (by omega)]
    exact dgN_c 6 (fun k hk => tes_eq h hH (by omega) hk)
theorem dgA_eq {M N : St} {ns nm H : Nat} {d : Int64} (h : Rel M N ns nm H) : ∀ n, n ≤ nm → dgA M 0 ns d n = dmR N ns d n
  | 0, _ => rfl
  | n + 1, hn => by
    have hm := h.1.1.2.2.1 n (by omega)
    unfold dgA dmR dgM
    rw [dgA_eq h n (by omega), dgT_eq hm _ (Nat.le_refl _), dgN_c 10 (fun k hk => tem_eq h (by omega) hk), (meOk_sz hm).2.2.2]
theorem dlt_eq {M N : St} {ns nm H q : Nat} {d : Int64} (h : clOk M N 0 ns nm H) (hl : leOk M N 0 nm q) : ∀ k, k ≤ q → dgT M (16 + 0) 3 d k = dlt N d k
  | 0, _ => rfl
  | k + 1, hk => by
    obtain ⟨m, l, ⟨b1, b2⟩, b3, b4, b5, b6, b7⟩ := hl.2.1 k (by omega)
    have hn := h.1
    have hs := (meOk_sz (h.2.2.1 m b1)).2.1
    unfold dgT dlt
    rw [dlt_eq h hl k (by omega)]
    show ((dlt N d k * 31 + (M 16 (16 + 0) (k * 3 + 0)).toInt64) * 31 + (M 16 (16 + 0) (k * 3 + 1)).toInt64) * 31 + (M 16 (16 + 0) (k * 3 + 2)).toInt64 = _
    rw [b3, b4, b6, b5, show nI (40 * m + l) / 40 = nI ((40 * m + l) / 40) from pk_div (d := 40) (by omega) (by omega) (by omega), show rmd (nI (40 * m + l)) 40 = nI ((40 * m + l) % 40) from rmdN (d := 40) (by omega) (by omega) (by omega), show (40 * m + l) / 40 = m by omega, show (40 * m + l) % 40 = l by omega]
theorem digest_told {M N : St} {ns nm H : Nat} (h : Rel M N ns nm H) (hH : H < 1000000) : digF M 0 ns nm = dgR N ns nm := by
  obtain ⟨q, hl⟩ := h.1.2.1
  obtain ⟨-, -, e1, e2⟩ := leOk_T h.1.1 hl
  unfold digF dgR
  rw [e1, e2, dgN_c 8 (fun k hk => tec_eq h hH hk), dgS_eq h hH ns (Nat.le_refl ns), dgA_eq h nm (Nat.le_refl nm)]
  exact dlt_eq h.1.1 hl q (Nat.le_refl q)
