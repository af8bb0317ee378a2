/-! dial, next, apart on both sides -/
/-- the cells that are only reckoned with -/
def scrP (f a : Nat) : Prop := (4 ≤ f ∧ f ≤ 7 ∧ a = 0) ∨ (8 ≤ f ∧ f ≤ 13 ∧ a = 16)
theorem Rel.scr2 {M N X : St} {ns nm H : Nat} (h : Rel M N ns nm H) (e : ∀ f a, ¬ scrP f a → X f a = M f a) : Rel X N ns nm H := by
  unfold scrP at e
  exact h.scr (funext fun a => e 0 a (by omega)) (by rw [e 1 0 (by omega)]) (by rw [e 2 0 (by omega)]) (by rw [e 3 0 (by omega)]) (e 17 0 (by omega)) (flK_c h.2.2.2.1 (funext fun a => e 17 a (by omega))) (fun f a _ _ _ => e f a (by omega)) (e 15 16 (by omega)) (e 16 16 (by omega))
theorem setQ_scr {M : St} {q : hQ} {f a : Nat} (h : ¬ scrP f a) : setQ M 0 q f a = M f a := by
  unfold scrP at h
  unfold setQ setH
  rw [mu_ne (by omega), mu_ne (by omega), mu_ne (by omega), mu_ne (by omega)]
theorem cpS_of {M : St} {j k f a : Nat} (h : ¬ (8 ≤ f ∧ f ≤ 13 ∧ a = j)) : cpS M j k f a = M f a := by
  unfold cpS
  rw [mu_ne (by omega), mu_ne (by omega), mu_ne (by omega), mu_ne (by omega), mu_ne (by omega), mu_ne (by omega)]
/-- a probe -/
def prP (M N X : St) (i H ns a cr : Nat) : Prop := (∀ k, k < ns → stOk X N k) ∧ X 3 0 0 = nI H ∧ X 10 16 0 = nI a ∧ X 11 16 0 = nI cr ∧ N 6 0 i = nI a ∧ (cr ≤ 9 ∧ a ≤ 60) ∧ ∀ f b, ¬ scrP f b → X f b = M f b
theorem prP_tune {M N X : St} {i H ns a cr t d : Nat} (h : prP M N X i H ns a cr) (h1 : 20 ≤ t) (h2 : t ≤ 200) (h3 : d ≤ 100) : prP M N (tuneF X 16 (nI t) (nI d)) i H ns a cr ∧ seOk (tuneF X 16 (nI t) (nI d)) N 16 i t d cr a ∧ tuneF X 16 (nI t) (nI d) 8 16 0 = nI t := by
  obtain ⟨p1, p2, p3, p4, p5, p6, p7⟩ := h
  have e10 : tuneF X 16 (nI t) (nI d) 10 16 0 = nI a := by rw [tuneF_of (by omega)]; exact p3
  have e11 : tuneF X 16 (nI t) (nI d) 11 16 0 = nI cr := by rw [tuneF_of (by omega)]; exact p4
  refine ⟨⟨fun k hk => stOk_c (p1 k hk) (funext fun b => tuneF_of (by omega)) rfl, by rw [tuneF_of (by omega)]; exact p2, e10, e11, p5, p6, fun f b hf => ?_⟩, ⟨⟨h1, h2, h3, p6.1, p6.2⟩, ?_, ?_, e10, e11, p5⟩, ?_⟩
  · unfold scrP at hf
    rw [tuneF_of (by omega)]
    exact p7 f b hf
  · unfold tuneF; rw [mu_o (by omega), mu_s]; exact tune_se h1 h2 h3
  · unfold tuneF; rw [mu_s]; exact wid_nat h2
  · unfold tuneF; rw [mu_o (by omega), mu_o (by omega), mu_o (by omega), mu_s]
theorem prP_set {M N X : St} {i H ns a cr : Nat} {q : hQ} (h : prP M N X i H ns a cr) : prP M N (setQ X 0 q) i H ns a cr := by
  obtain ⟨p1, p2, p3, p4, p5, p6, p7⟩ := h
  have e : ∀ f b, ¬ scrP f b → setQ X 0 q f b = X f b := fun f b hf => setQ_scr hf
  have e8 : ∀ f, 8 ≤ f → setQ X 0 q f = X f := fun f hf => funext fun b => by
    unfold setQ setH
    rw [mu_ne (by omega), mu_ne (by omega), mu_ne (by omega), mu_ne (by omega)]
  exact ⟨fun k hk => stOk_c (p1 k hk) (funext fun b => e 0 b (by unfold scrP; omega)) rfl, by rw [e 3 0 (by unfold scrP; omega)]; exact p2, by rw [e8 10 (by omega)]; exact p3, by rw [e8 11 (by omega)]; exact p4, p5, p6, fun f b hf => (e f b hf).trans (p7 f b hf)⟩
/-- the best dial -/
theorem bd_eq {M N X : St} {i H ns a cr t k : Nat} (hH : H < 1000000) (hn : ns ≤ 12) (hk : k < ns) (h : prP M N X i H ns a cr) (hX8 : X 8 16 0 = nI t) (h1 : 20 ≤ t) (h2 : t ≤ 200) (n8 : N 8 0 0 = nI H) (n4 : N 4 0 i = nI t) (n12 : N 12 0 i = nI cr) : ∀ d, d ≤ 101 → bdR X 0 16 ns (nI k) d = dlR N i ns k d ∧ prP M N (bdS X 0 16 ns d) i H ns a cr ∧ bdS X 0 16 ns d 8 16 0 = nI t
  | 0, _ => ⟨rfl, h, hX8⟩
  | d + 1, hd => by
    obtain ⟨e1, e2, e3⟩ := bd_eq hH hn hk h hX8 h1 h2 n8 n4 n12 d (by omega)
    obtain ⟨q1, q2, q3⟩ := prP_tune (d := d) e2 h1 h2 (by omega)
    have hS : bdS X 0 16 ns (d + 1) = setQ (tuneF (bdS X 0 16 ns d) 16 (nI t) (nI d)) 0 (heaF (tuneF (bdS X 0 16 ns d) 16 (nI t) (nI d)) 16 (nI H) ns) := by
      show heaM (tuneF (bdS X 0 16 ns d) 16 ((bdS X 0 16 ns d) 8 16 0) (nI d)) 0 16 ((bdS X 0 16 ns d) 3 0 0) ns = _
      rw [e3, e2.2.1]
      rfl
    have hg : getQ (bdS X 0 16 ns (d + 1)) 0 = heaF (tuneF (bdS X 0 16 ns d) 16 (nI t) (nI d)) 16 (nI H) ns := by rw [hS]; exact getQ_s
    have h6 : bdS X 0 16 ns (d + 1) 6 0 0 = (heaF (tuneF (bdS X 0 16 ns d) 16 (nI t) (nI d)) 16 (nI H) ns).2.2.1 := congrArg (fun q : hQ => q.2.2.1) hg
    have hv := hear_eq q1.1 q2 hH hn
    refine ⟨?_, by rw [hS]; exact prP_set q1, ?_⟩
    · show (if verQ (getQ (bdS X 0 16 ns (d + 1)) 0) = nI k then (if bdS X 0 16 ns (d + 1) 6 0 0 ≤ (bdR X 0 16 ns (nI k) d).2 then bdR X 0 16 ns (nI k) d else (nI d, bdS X 0 16 ns (d + 1) 6 0 0)) else bdR X 0 16 ns (nI k) d) = (if heR N i (N 8 0 0) (N 4 0 i) (nI d) (N 12 0 i) (onR N (N 8 0 0) ns) ns = nI k then (if (dlR N i ns k d).2 < rcR N i (N 8 0 0) (N 4 0 i) (nI d) (N 12 0 i) k then (nI d, rcR N i (N 8 0 0) (N 4 0 i) (nI d) (N 12 0 i) k) else dlR N i ns k d) else dlR N i ns k d)
      rw [hg, h6, e1, n8, n4, n12, hv]
      by_cases z : heR N i (nI H) (nI t) (nI d) (nI cr) (onR N (nI H) ns) ns = nI k
      · rw [if_pos z, if_pos z, (hear_str q1.1 q2 hH hn (by omega) z).2]
        by_cases w : rcR N i (nI H) (nI t) (nI d) (nI cr) k ≤ (dlR N i ns k d).2
        · rw [if_pos w, if_neg (Int32.not_lt.mpr w)]
        · rw [if_neg w, if_pos (Int32.not_le.mp w)]
      · rw [if_neg z, if_neg z]
    · rw [hS]
      unfold setQ setH
      rw [mu_o (by omega), mu_o (by omega), mu_o (by omega), mu_o (by omega)]
      exact q3
theorem pr_0 {M N : St} {ns nm H i : Nat} (h : Rel M N ns nm H) (hi : i < nm) : ∃ t d cr a : Nat, (20 ≤ t ∧ t ≤ 200 ∧ d ≤ 100) ∧ prP M N (cpS M 16 (8 * 0 + i)) i H ns a cr ∧ cpS M 16 (8 * 0 + i) 8 16 0 = nI t ∧ N 8 0 0 = nI H ∧ N 4 0 i = nI t ∧ N 5 0 i = nI d ∧ N 12 0 i = nI cr := by
  obtain ⟨⟨hn1, hn2⟩, hst, hme, hx, hy⟩ := h.1.1
  obtain ⟨t, d, cr, a, L, ⟨⟨b1, b2, b3, b4, b5⟩, s12, s13, s10, s11, sN⟩, ⟨m1, m2, m3, m4, m5, m6, m7⟩, -⟩ := hme i hi
  refine ⟨t, d, cr, a, ⟨b1, b2, b3⟩, ⟨fun k hk => stOk_c (hst k hk) (funext fun b => cpS_of (by omega)) rfl, by rw [cpS_of (by omega)]; exact hx, ?_, ?_, sN, ⟨b4, b5⟩, fun f b hf => cpS_of (fun z => hf (Or.inr z))⟩, ?_, hy, m2, m4, m5⟩
  · unfold cpS
    rw [mu_o (by omega), mu_o (by omega), mu_o (by omega), mu_s]; exact s10
  · unfold cpS
    rw [mu_o (by omega), mu_o (by omega), mu_s]; exact s11
  · unfold cpS
    rw [mu_o (by omega), mu_o (by omega), mu_o (by omega), mu_o (by omega), mu_o (by omega), mu_s]; exact m1
theorem dial_told {M N : St} {ns nm H i k : Nat} (h : Rel M N ns nm H) (hH : H < 1000000) (hi : i < nm) (hk : k < ns) : (bdR (cpS M 16 (8 * 0 + i)) 0 16 ns (nI k) 101).1 = (dlR N i ns k 101).1 ∧ Rel (bdS (cpS M 16 (8 * 0 + i)) 0 16 ns 101) N ns nm H ∧ ∀ d, d < 101 → ¬ N 4 0 i + nI d = 0 := by
  obtain ⟨t, d, cr, a, ⟨b1, b2, b3⟩, hp, h8, n8, n4, n5, n12⟩ := pr_0 h hi
  obtain ⟨e1, e2, -⟩ := bd_eq hH h.1.1.1.1 hk hp h8 b1 b2 n8 n4 n12 101 (Nat.le_refl 101)
  refine ⟨by rw [e1], h.scr2 e2.2.2.2.2.2.2, fun d hd => ?_⟩
  rw [n4, nI_add]
  intro z
  have := nI_inj (a := t + d) (b := 0) (by omega) (by omega) z
  omega
/-- next -/
theorem nx_eq {M N : St} {ns nm H i k : Nat} (h : Rel M N ns nm H) (hH : H + 97 < 1000000) (hi : i < nm) (hk : k < ns) : ∀ d, d ≤ 97 → Rel (nxS M (8 * 0 + i) ns d) N ns nm H ∧ (∀ f a, ¬ scrP f a → nxS M (8 * 0 + i) ns d f a = M f a) ∧ ∀ d', d = d' + 1 → verQ (getQ (nxS M (8 * 0 + i) ns d) 0) = heR N i (N 8 0 0 + nI d') (N 4 0 i) (N 5 0 i) (N 12 0 i) (onR N (N 8 0 0 + nI d') ns) ns
  | 0, _ => ⟨h, fun _ _ _ => rfl, fun d' z => absurd z (by omega)⟩
  | d + 1, hd => by
    obtain ⟨e1, e2, -⟩ := nx_eq h hH hi hk d (by omega)
    have e3 : ∀ f a, ¬ scrP f a → nxS M (8 * 0 + i) ns (d + 1) f a = M f a := fun f a hf => by
      show heaM (nxS M (8 * 0 + i) ns d) 0 (8 * 0 + i) ((nxS M (8 * 0 + i) ns d) 3 0 0 + nI d) ns f a = _
      unfold heaM
      rw [setQ_scr hf]
      exact e2 f a hf
    refine ⟨h.scr2 e3, e3, fun d' z => ?_⟩
    have hdd : d' = d := by omega
    subst hdd
    obtain ⟨⟨hn1, hn2⟩, hst, hme, hx, hy⟩ := e1.1.1
    obtain ⟨t, dd, cr, a, L, hse, ⟨m1, m2, m3, m4, m5, m6, m7⟩, -⟩ := hme i hi
    show verQ (getQ (setQ (nxS M (8 * 0 + i) ns d') 0 (heaF (nxS M (8 * 0 + i) ns d') (8 * 0 + i) ((nxS M (8 * 0 + i) ns d') 3 0 0 + nI d') ns)) 0) = _
    rw [getQ_s, hx, hy, m2, m4, m5, nI_add]
    exact hear_eq hst hse (by omega) hn1
theorem nxE_eq {M N : St} {ns nm H i k : Nat} (h : Rel M N ns nm H) (hH : H + 97 < 1000000) (hi : i < nm) (hk : k < ns) : ∀ q d, d + q = 97 → nxR (nxE M (8 * 0 + i) ns (nI k) q d) = neR N i ns k q d ∧ nxE M (8 * 0 + i) ns (nI k) q d ≤ 97
  | 0, d, e => by
    unfold nxE neR nxR
    exact ⟨if_neg (by omega), by omega⟩
  | q + 1, d, e => by
    obtain ⟨ih, il⟩ := nxE_eq h hH hi hk q (d + 1) (by omega)
    unfold nxE neR
    rw [(nx_eq h hH hi hk (d + 1) (by omega)).2.2 d rfl]
    by_cases z : heR N i (N 8 0 0 + nI d) (N 4 0 i) (N 5 0 i) (N 12 0 i) (onR N (N 8 0 0 + nI d) ns) ns = nI k
    · rw [if_pos z, if_pos z]
      exact ⟨if_pos (by omega), by omega⟩
    · rw [if_neg z, if_neg z]
      exact ⟨ih, il⟩
theorem next_told {M N : St} {ns nm H i k : Nat} (h : Rel M N ns nm H) (hH : H + 97 < 1000000) (hi : i < nm) (hk : k < ns) : nxR (nxE M (8 * 0 + i) ns (nI k) 97 0) = neR N i ns k 97 0 ∧ Rel (nxS M (8 * 0 + i) ns (nxK (nxE M (8 * 0 + i) ns (nI k) 97 0))) N ns nm H := by
  refine ⟨(nxE_eq h hH hi hk 97 0 rfl).1, (nx_eq h hH hi hk _ ?_).1⟩
  unfold nxK
  split <;> omega
