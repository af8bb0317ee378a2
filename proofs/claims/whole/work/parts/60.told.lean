/-! what is told, on both sides -/
theorem liOk_of {M N : St} {c i ns : Nat} (h : meOk M N c i ns) : liOk M N c i ns (szN M (8 * c + i)) := by
  obtain ⟨t, d, cr, a, L, -, -, ⟨l1, l2, l3⟩, hli⟩ := h
  rw [show szN M (8 * c + i) = L from nI_cl l2 (by omega)]
  exact hli
theorem pC_hc {M N : St} {i k ns : Nat} (h : meOk M N 0 i ns) : pC M (8 * 0 + i) k (szN M (8 * 0 + i)) = true ↔ hcR N 0 i (nI k) (szR N 0 i) := by
  rw [pC_iff, (meOk_sz h).2.2.2]
  exact card_eq (liOk_of h) (nI k)
theorem pC_hi {M N : St} {i k ns : Nat} (h : meOk M N 0 i ns) (hn : ns ≤ 12) (h1 : ns ≤ k) (h2 : k < 2 ^ 31) : pC M (8 * 0 + i) k (szN M (8 * 0 + i)) = false := by
  cases e : pC M (8 * 0 + i) k (szN M (8 * 0 + i))
  · rfl
  · exfalso
    obtain ⟨l, hl, z1, z2⟩ := (pC_iff _).mp e
    obtain ⟨-, ⟨s, hs, z3⟩, -⟩ := liOk_of h l hl
    have := nI_inj (a := k) (b := s) h2 (by omega) (z1.symm.trans z3)
    omega
theorem crd_eq {M N : St} {i ns : Nat} (h : meOk M N 0 i ns) (hn : ns ≤ 12) : crdF M (8 * 0 + i) (szN M (8 * 0 + i)) = mskB (fun k => pC M (8 * 0 + i) k (szN M (8 * 0 + i))) 12 :=
  crd_msk _ (fun l hl => by
    obtain ⟨-, ⟨s, hs, z3⟩, -⟩ := liOk_of h l hl
    exact ⟨s, by omega, z3⟩)
theorem crd_0 {M N : St} {i k ns : Nat} (h : meOk M N 0 i ns) (hn : ns ≤ 12) (hk : k < 12) : crdF M (8 * 0 + i) (szN M (8 * 0 + i)) &&& (1 <<< (nI k &&& 31)) = 0 ↔ b2 (hcR N 0 i (nI k) (szR N 0 i)) = 0 := by
  rw [crd_eq h hn]
  show mskB _ 12 &&& bw k = 0 ↔ _
  rw [msk_and (by omega) 12 (by omega), pC_hc h]
  constructor
  · intro z; exact b2_f (fun w => z ⟨hk, w⟩)
  · intro z w; exact b2_0 z w.2
theorem mwc_eq {M N : St} {ns nm k : Nat} (h : ∀ i, i < nm → meOk M N 0 i ns) (hn : ns ≤ 12) (hk : k < 12) : ∀ n, n ≤ nm → mwcF M 0 k n = cdR N (nI k) n
  | 0, _ => rfl
  | n + 1, hle => by
    unfold mwcF cdR
    rw [mwc_eq h hn hk n (by omega)]
    by_cases z : b2 (hcR N 0 n (nI k) (szR N 0 n)) = 0
    · rw [if_pos ((crd_0 (h n (by omega)) hn hk).mpr z), z, Int32.add_zero]
    · rw [if_neg (fun w => z ((crd_0 (h n (by omega)) hn hk).mp w)), b2_t (b2_n z)]
theorem held_0 {M N : St} {i ns : Nat} (h : meOk M N 0 i ns) (hn : ns ≤ 12) : ∀ n, n ≤ ns → hdR N i 0 n = cntB (fun k => pC M (8 * 0 + i) k (szN M (8 * 0 + i))) n
  | 0, _ => rfl
  | n + 1, hle => by
    unfold hdR cntB
    rw [held_0 h hn n (by omega), if_pos (show (0 : Int32) = 0 from rfl)]
    by_cases z : hcR N 0 i (nI n) (szR N 0 i)
    · rw [if_pos ((pC_hc h).mpr z), if_neg (fun w => b2_0 w z)]
    · rw [if_neg (fun w => z ((pC_hc h).mp w)), if_pos (b2_f z)]
theorem bcc_eq {M N : St} {i ns : Nat} (h : meOk M N 0 i ns) (hn : ns ≤ 12) : bcF (crdF M (8 * 0 + i) (szN M (8 * 0 + i))) = hdR N i 0 ns := by
  rw [crd_eq h hn, bc_msk (by omega), held_0 h hn ns (Nat.le_refl ns)]
  have e := cntB_x (p := fun k => pC M (8 * 0 + i) k (szN M (8 * 0 + i))) (n := ns) (12 - ns) (fun k a b => pC_hi h hn a (by omega))
  rw [show ns + (12 - ns) = 12 by omega] at e
  exact e
theorem sco_eq {M N : St} {i ns : Nat} (hst : ∀ k, k < ns → stOk M N k) (h : meOk M N 0 i ns) (hn : ns ≤ 12) : ∀ n, n ≤ ns → scoF M (crdF M (8 * 0 + i) (szN M (8 * 0 + i))) n = hdR N i 1 n
  | 0, _ => rfl
  | n + 1, hle => by
    unfold scoF hdR
    obtain ⟨fr, pw, fa, fm, ho, ph, p1, ⟨m0, m1, m2, m3, m4, m5⟩, ⟨n0, n1, n2, n3, n4, n5⟩⟩ := hst n (by omega)
    rw [sco_eq hst h hn n (by omega), if_neg (show ¬ (1 : Int32) = 0 by decide), m2, n2]
    by_cases z : b2 (hcR N 0 i (nI n) (szR N 0 i)) = 0
    · rw [if_pos ((crd_0 h hn (by omega)).mpr z), if_pos z]
    · rw [if_neg (fun w => z ((crd_0 h hn (by omega)).mp w)), if_neg z]
theorem air_01 {a b h : Int32} : airN a b h = 0 ∨ airN a b h = 1 := by
  unfold airN
  split
  · exact Or.inl rfl
  · exact Or.inr rfl
/-- station -/
theorem tes_eq {M N : St} {ns nm H k v : Nat} (h : Rel M N ns nm H) (hH : H < 1000000) (hk : k < ns) (hv : v < 6) : tesF M 0 nm k v = tsR N ns nm k v := by
  obtain ⟨⟨hn1, hn2⟩, hst, hme, hx, hy⟩ := h.1.1
  have hs := hst k hk
  obtain ⟨fr, pw, fa, fm, ho, ph, ⟨b1, b2, b3, b4, b5, b6, b7⟩, ⟨m0, m1, m2, m3, m4, m5⟩, ⟨n0, n1, n2, n3, n4, n5⟩⟩ := id hs
  unfold tsR
  rcases (show v = 0 ∨ v = 1 ∨ v = 2 ∨ v = 3 ∨ v = 4 ∨ v = 5 by omega) with rfl | rfl | rfl | rfl | rfl | rfl
  · exact m0.trans n0.symm
  · exact m1.trans n1.symm
  · exact m2.trans n2.symm
  · show (if airN (M 0 k 3) (M 0 k 4) (M 3 0 0) = 0 then 0 else 1) = bitR (onR N (N 8 0 0) ns) k
    rw [hy, on_eq hs hH hn1 hk, hx]
    rcases air_01 (a := M 0 k 3) (b := M 0 k 4) (h := nI H) with e | e
    · rw [e, if_pos rfl]
    · rw [e, if_neg (by decide)]
  · show fadF (M 0 k 5) (M 3 0 0) = fadR N k (N 8 0 0)
    unfold fadR
    rw [m5, hx, hy, n5]
    exact (fad_eq b7 hH).1
  · exact mwc_eq hme hn1 (by omega) nm (Nat.le_refl nm)
/-- member -/
theorem tem_eq {M N : St} {ns nm H i v : Nat} (h : Rel M N ns nm H) (hi : i < nm) (hv : v < 10) : temF M ns (8 * 0 + i) v = tmR N ns i v := by
  obtain ⟨⟨hn1, hn2⟩, hst, hme, hx, hy⟩ := h.1.1
  have hm := hme i hi
  obtain ⟨t, d, cr, a, L, ⟨⟨b1, b2, b3, b4, b5⟩, s12, s13, s10, s11, sN⟩, ⟨m1, m2, m3, m4, m5, m6, m7⟩, ⟨l1, l2, l3⟩, hli⟩ := id hm
  rcases (show v = 0 ∨ v = 1 ∨ v = 2 ∨ v = 3 ∨ v = 4 ∨ v = 5 ∨ v = 6 ∨ v = 7 ∨ v = 8 ∨ v = 9 by omega) with rfl | rfl | rfl | rfl | rfl | rfl | rfl | rfl | rfl | rfl
  · exact m1.trans m2.symm
  · exact m3.trans m4.symm
  · exact s10.trans sN.symm
  · exact s11.trans m5.symm
  · show (if M 14 (8 * 0 + i) 0 = 0 then 0 else 1) = N 7 0 i
    rw [m6]
    rcases m7 with e | e
    · rw [e, if_pos rfl]
    · rw [e, if_neg (by decide)]
  · show M 12 (8 * 0 + i) 0 = 100000 / (N 4 0 i + N 5 0 i)
    rw [s12, m2, m4, tun_nat b1 b2 b3]
  · show M 13 (8 * 0 + i) 0 = widF (N 4 0 i)
    rw [s13, m2, wid_nat b2]
  · exact l2.trans l3.symm
  · exact bcc_eq hm hn1
  · exact sco_eq hst hm hn1 ns (Nat.le_refl ns)
/-- strength, hears, log -/
theorem str_told {M N : St} {ns nm H i k : Nat} (h : Rel M N ns nm H) (hH : H < 1000000) (hi : i < nm) (hk : k < ns) : strA M i k = sgR N ns i k := by
  obtain ⟨⟨hn1, hn2⟩, hst, hme, hx, hy⟩ := h.1.1
  obtain ⟨t, d, cr, a, L, hse, ⟨m1, m2, m3, m4, m5, m6, m7⟩, -⟩ := hme i hi
  unfold strA sgR
  rw [hx, hy, on_eq (hst k hk) hH hn1 hk, m2, m4, m5, (rc_eq (hst k hk) hse hH).1]
theorem hea_told {M N : St} {ns nm H i : Nat} (h : Rel M N ns nm H) (hH : H < 1000000) (hi : i < nm) : verQ (getQ (heaM M 0 (8 * 0 + i) (M 3 0 0) ns) 0) = heR N i (N 8 0 0) (N 4 0 i) (N 5 0 i) (N 12 0 i) (onR N (N 8 0 0) ns) ns ∧ Rel (heaM M 0 (8 * 0 + i) (M 3 0 0) ns) N ns nm H := by
  obtain ⟨⟨hn1, hn2⟩, hst, hme, hx, hy⟩ := h.1.1
  obtain ⟨t, d, cr, a, L, hse, ⟨m1, m2, m3, m4, m5, m6, m7⟩, -⟩ := hme i hi
  have hf : ∀ f a, f < 4 ∨ 7 < f → heaM M 0 (8 * 0 + i) (M 3 0 0) ns f a = M f a := fun f a hf => heaM_of hf
  refine ⟨?_, ?_⟩
  · rw [show getQ (heaM M 0 (8 * 0 + i) (M 3 0 0) ns) 0 = heaF M (8 * 0 + i) (M 3 0 0) ns from getQ_s, hx, hy, m2, m4, m5]
    exact hear_eq hst hse hH hn1
  · exact h.scr (funext fun a => hf 0 a (by omega)) (by rw [hf 1 0 (by omega)]) (by rw [hf 2 0 (by omega)]) (by rw [hf 3 0 (by omega)]) (hf 17 0 (by omega)) (flK_c h.2.2.2.1 (funext fun a => hf 17 a (by omega))) (fun f a _ _ _ => hf f a (by omega)) (hf 15 16 (by omega)) (hf 16 16 (by omega))
theorem log_told {M N : St} {ns nm H i ln v : Nat} (h : Rel M N ns nm H) (hi : i < nm) (hln : ln < szN M (8 * 0 + i)) (hv : v < 4) : M 16 (8 * 0 + i) (ln * 4 + v) = N 14 0 (4 * (40 * i + ln) + v) := (liOk_of (h.1.1.2.2.1 i hi) ln hln).1 v hv
/-- count -/
theorem soa_eq {M N : St} {ns H : Nat} (hst : ∀ k, k < ns → stOk M N k) (hH : H < 1000000) (hn : ns ≤ 12) (hx : M 3 0 0 = nI H) : ∀ n, n ≤ ns → soaF M 0 n = cntB (fun k => !decide (airN (M 0 k 3) (M 0 k 4) (nI H) = 0)) n ∧ onR N (nI H) n = mskB (fun k => !decide (airN (M 0 k 3) (M 0 k 4) (nI H) = 0)) n
  | 0, _ => ⟨rfl, rfl⟩
  | n + 1, hle => by
    obtain ⟨e1, e2⟩ := soa_eq hst hH hn hx n (by omega)
    obtain ⟨fr, pw, fa, fm, ho, ph, ⟨b1, b2, b3, b4, b5, b6, b7⟩, ⟨m0, m1, m2, m3, m4, m5⟩, ⟨n0, n1, n2, n3, n4, n5⟩⟩ := hst n (by omega)
    unfold soaF onR cntB mskB
    rw [e1, e2, hx, n3, n4, m3, m4]
    have ea : airN (nI fm) (nI ho) (nI H) = if nI ho ≤ rmd (nI H + 24 - nI fm) 24 then 0 else 1 := by
      unfold airN
      rw [air_eq b5 hH]
    rw [ea]
    by_cases z : nI ho ≤ rmd (nI H + 24 - nI fm) 24
    · simp only [if_pos z]
      exact ⟨rfl, rfl⟩
    · simp only [if_neg z]
      exact ⟨rfl, rfl⟩
theorem ear_eq {M N : St} {ns nm : Nat} (h : ∀ i, i < nm → meOk M N 0 i ns) : ∀ n, n ≤ nm → lisF M 0 n = earR N n
  | 0, _ => rfl
  | n + 1, hle => by
    obtain ⟨t, d, cr, a, L, -, ⟨m1, m2, m3, m4, m5, m6, m7⟩, -⟩ := h n (by omega)
    unfold lisF earR
    rw [ear_eq h n (by omega), m6]
    rcases m7 with e | e
    · rw [e, if_pos rfl, Int32.add_zero]
    · rw [e, if_neg (by decide)]
theorem tec_eq {M N : St} {ns nm H v : Nat} (h : Rel M N ns nm H) (hH : H < 1000000) (hv : v < 8) : tecF M 0 ns nm v = tcR N ns nm v := by
  obtain ⟨⟨hn1, hn2⟩, hst, hme, hx, hy⟩ := h.1.1
  obtain ⟨⟨-, ⟨q, hl⟩, hct⟩, g2, g3, g4, ⟨g5, g6⟩, g7⟩ := h
  rcases (show v = 0 ∨ v = 1 ∨ v = 2 ∨ v = 3 ∨ v = 4 ∨ v = 5 ∨ v = 6 ∨ v = 7 by omega) with rfl | rfl | rfl | rfl | rfl | rfl | rfl | rfl
  · exact hx.trans hy.symm
  · exact g2.1
  · show soaF M 0 ns = bcF (onR N (N 8 0 0) ns)
    obtain ⟨e1, e2⟩ := soa_eq hst hH hn1 hx ns (Nat.le_refl ns)
    rw [hy, e1, e2, bc_msk hn1]
  · exact g3.1
  · exact ear_eq hme nm (Nat.le_refl nm)
  · exact hct.1.symm
  · exact hct.2.symm
  · exact hl.1.2.1.trans hl.1.2.2.symm
