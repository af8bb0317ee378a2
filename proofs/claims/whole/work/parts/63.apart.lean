/-! two stations apart, on both sides -/
def vTwo (x y sa sb : Int32) : Int32 := veR (stR (stR (-1, 0, 0, 0) x sa) y sb)
theorem ve_nat {b c : Int32} {m s : Nat} (hm : m < 2 ^ 30) (hs : s < 2 ^ 29) : veR (b, nI m, nI s, c) = if 5 ≤ m ∧ 2 * s ≤ m then b else (if c ≤ 1 then -1 else -2) := by
  have e2 : (2 * nI s : Int32) = nI (2 * s) := pk_mul 2 s
  have l5 : nI m < 5 ↔ m < 5 := by
    rw [i_lt, nI_toInt (by omega), show (5 : Int32).toInt = 5 from rfl]; omega
  have l2 : nI m < 2 * nI s ↔ m < 2 * s := by
    rw [e2, i_lt, nI_toInt (by omega), nI_toInt (by omega)]; omega
  show (if nI m < 5 then (if c ≤ 1 then -1 else -2) else if nI m < 2 * nI s then (if c ≤ 1 then -1 else -2) else b) = _
  by_cases h1 : m < 5
  · rw [if_pos (l5.mpr h1), if_neg (show ¬ (5 ≤ m ∧ 2 * s ≤ m) by omega)]
  · rw [if_neg (fun z => h1 (l5.mp z))]
    by_cases h2 : m < 2 * s
    · rw [if_pos (l2.mpr h2), if_neg (show ¬ (5 ≤ m ∧ 2 * s ≤ m) by omega)]
    · rw [if_neg (fun z => h2 (l2.mp z)), if_pos (show 5 ≤ m ∧ 2 * s ≤ m by omega)]
theorem st_1 {x : Int32} {p : Nat} (hp : p < 2 ^ 28) : stR (-1, 0, 0, 0) x (nI p) = if p = 0 then (-1, 0, 0, 0) else (x, nI p, 0, 1) := by
  unfold stR
  by_cases h : p = 0
  · subst h
    rw [if_pos (show nI 0 = 0 from rfl), if_pos rfl]
  · have h0 : ¬ nI p = 0 := fun z => h (nI_inj (a := p) (b := 0) (by omega) (by omega) z)
    have h1 : ¬ nI p ≤ 0 := fun z => by
      have := i_le.mp z
      rw [nI_toInt (by omega), show (0 : Int32).toInt = 0 from rfl] at this
      omega
    rw [if_neg h0, if_neg h, if_neg h1]
    rfl
theorem st_2 {x y : Int32} {p q : Nat} (hp : p < 2 ^ 28) (hq : q < 2 ^ 28) : stR (x, nI p, 0, 1) y (nI q) = if q = 0 then (x, nI p, 0, 1) else if q ≤ p then (x, nI p, nI q, 2) else (y, nI q, nI p, 2) := by
  unfold stR
  by_cases h : q = 0
  · subst h
    rw [if_pos (show nI 0 = 0 from rfl), if_pos rfl]
  · have h0 : ¬ nI q = 0 := fun z => h (nI_inj (a := q) (b := 0) (by omega) (by omega) z)
    have h1 : nI q ≤ nI p ↔ q ≤ p := by
      rw [i_le, nI_toInt (by omega), nI_toInt (by omega)]; omega
    have h2 : (0 : Int32) < nI q := i_lt.mpr (by rw [nI_toInt (by omega), show (0 : Int32).toInt = 0 from rfl]; omega)
    rw [if_neg h0, if_neg h]
    by_cases w : q ≤ p
    · rw [if_pos (h1.mpr w), if_pos w]
      show (x, nI p, (if (0 : Int32) < nI q then nI q else 0), (1 : Int32) + 1) = _
      rw [if_pos h2]
      rfl
    · rw [if_neg (fun z => w (h1.mp z)), if_neg w]
      rfl
theorem two_x {x y : Int32} {p q : Nat} (hp : p < 2 ^ 28) (hq : q < 2 ^ 28) (x1 : ¬ x = -1) (x2 : ¬ x = -2) (y1 : ¬ y = -1) (y2 : ¬ y = -2) (xy : ¬ x = y) : (vTwo x y (nI p) (nI q) = x ↔ 5 ≤ p ∧ 2 * q ≤ p) ∧ (vTwo x y (nI p) (nI q) = y ↔ 5 ≤ q ∧ 2 * p ≤ q) := by
  have no : ∀ c z : Int32, ¬ z = -1 → ¬ z = -2 → ¬ (if c ≤ 1 then (-1 : Int32) else -2) = z := by
    intro c z w1 w2 e
    by_cases h : c ≤ 1
    · rw [if_pos h] at e; exact w1 e.symm
    · rw [if_neg h] at e; exact w2 e.symm
  unfold vTwo
  rw [st_1 hp]
  by_cases h0 : p = 0
  · subst h0
    rw [if_pos rfl, st_1 hq]
    by_cases h1 : q = 0
    · subst h1
      rw [if_pos rfl, show ((-1, 0, 0, 0) : rQ) = (-1, nI 0, nI 0, 0) from rfl, ve_nat (by omega) (by omega), if_neg (by omega)]
      exact ⟨⟨fun z => absurd z (no _ _ x1 x2), fun z => absurd z.1 (by omega)⟩, ⟨fun z => absurd z (no _ _ y1 y2), fun z => absurd z.1 (by omega)⟩⟩
    · rw [if_neg h1, show ((y, nI q, 0, 1) : rQ) = (y, nI q, nI 0, 1) from rfl, ve_nat (by omega) (by omega)]
      by_cases w : 5 ≤ q ∧ 2 * 0 ≤ q
      · rw [if_pos w]
        exact ⟨⟨fun z => absurd z.symm xy, fun z => absurd z.1 (by omega)⟩, ⟨fun _ => w, fun _ => rfl⟩⟩
      · rw [if_neg w]
        exact ⟨⟨fun z => absurd z (no _ _ x1 x2), fun z => absurd z.1 (by omega)⟩, ⟨fun z => absurd z (no _ _ y1 y2), fun z => absurd z w⟩⟩
  · rw [if_neg h0, st_2 hp hq]
    by_cases h1 : q = 0
    · subst h1
      rw [if_pos rfl, show ((x, nI p, 0, 1) : rQ) = (x, nI p, nI 0, 1) from rfl, ve_nat (by omega) (by omega)]
      by_cases w : 5 ≤ p ∧ 2 * 0 ≤ p
      · rw [if_pos w]
        exact ⟨⟨fun _ => w, fun _ => rfl⟩, ⟨fun z => absurd z xy, fun z => absurd z.1 (by omega)⟩⟩
      · rw [if_neg w]
        exact ⟨⟨fun z => absurd z (no _ _ x1 x2), fun z => absurd z w⟩, ⟨fun z => absurd z (no _ _ y1 y2), fun z => absurd z.1 (by omega)⟩⟩
    · rw [if_neg h1]
      by_cases h2 : q ≤ p
      · rw [if_pos h2, ve_nat (by omega) (by omega)]
        by_cases w : 5 ≤ p ∧ 2 * q ≤ p
        · rw [if_pos w]
          exact ⟨⟨fun _ => w, fun _ => rfl⟩, ⟨fun z => absurd z xy, fun z => absurd z.2 (by omega)⟩⟩
        · rw [if_neg w]
          exact ⟨⟨fun z => absurd z (no _ _ x1 x2), fun z => absurd z w⟩, ⟨fun z => absurd z (no _ _ y1 y2), fun z => absurd z.2 (by omega)⟩⟩
      · rw [if_neg h2, ve_nat (by omega) (by omega)]
        by_cases w : 5 ≤ q ∧ 2 * p ≤ q
        · rw [if_pos w]
          exact ⟨⟨fun z => absurd z.symm xy, fun z => absurd z.2 (by omega)⟩, ⟨fun _ => w, fun _ => rfl⟩⟩
        · rw [if_neg w]
          exact ⟨⟨fun z => absurd z (no _ _ x1 x2), fun z => absurd z.2 (by omega)⟩, ⟨fun z => absurd z (no _ _ y1 y2), fun z => absurd z w⟩⟩
/-- the reference's fold with two stations only -/
theorem st_0 {q : rQ} {num : Int32} : stR q num 0 = q := if_pos rfl
theorem fo_two {f : Nat → Int32} {a b : Nat} (hab : a < b) (hf : ∀ k, k ≠ a → k ≠ b → f k = 0) : ∀ n, foR f n = if n ≤ a then (-1, 0, 0, 0) else if n ≤ b then stR (-1, 0, 0, 0) (nI a) (f a) else stR (stR (-1, 0, 0, 0) (nI a) (f a)) (nI b) (f b)
  | 0 => by rw [if_pos (by omega)]; rfl
  | n + 1 => by
    show stR (foR f n) (nI n) (f n) = _
    rw [fo_two hab hf n]
    by_cases h1 : n = a
    · subst h1
      rw [if_pos (show n ≤ n by omega), if_neg (show ¬ n + 1 ≤ n by omega), if_pos (show n + 1 ≤ b by omega)]
    · by_cases h2 : n = b
      · subst h2
        rw [if_neg (show ¬ n ≤ a by omega), if_pos (show n ≤ n by omega), if_neg (show ¬ n + 1 ≤ a by omega), if_neg (show ¬ n + 1 ≤ n by omega)]
      · rw [hf n h1 h2, st_0]
        by_cases h3 : n ≤ a
        · rw [if_pos h3, if_pos (show n + 1 ≤ a by omega)]
        · rw [if_neg h3, if_neg (show ¬ n + 1 ≤ a by omega)]
          by_cases h4 : n ≤ b
          · rw [if_pos h4, if_pos (show n + 1 ≤ b by omega)]
          · rw [if_neg h4, if_neg (show ¬ n + 1 ≤ b by omega)]
theorem bo_bit {a b k : Nat} (ha : a < 31) (hb : b < 31) (hk : k < 31) : bitR (boR a b) k = if k = b then 1 else if k = a then 1 else 0 := by
  unfold boR
  rw [bit_or hb hk]
  by_cases h : k = b
  · rw [if_pos h, if_pos h]
  · rw [if_neg h, if_neg h]
    have e : ((1 : Int32) <<< (nI a &&& 31)) = (0 : Int32) ||| ((1 : Int32) <<< (nI a &&& 31)) := by
      apply Int32.toBitVec_inj.mp
      simp
    rw [e, bit_or ha hk]
    by_cases h2 : k = a
    · rw [if_pos h2, if_pos h2]
    · rw [if_neg h2, if_neg h2, bit_0]
theorem nI_n1 {n : Nat} (h : n < 2 ^ 30) : ¬ nI n = -1 ∧ ¬ nI n = -2 := by
  constructor <;> intro z <;> have := congrArg Int32.toInt z <;> rw [nI_toInt (by omega)] at this
  · rw [show (-1 : Int32).toInt = -1 from rfl] at this; omega
  · rw [show (-2 : Int32).toInt = -2 from rfl] at this; omega
/-- what the reference hears with two stations -/
theorem av_two {N : St} {i ns a b p q : Nat} {h t d cr : Int32} (ha : a < ns) (hb : b < ns) (hab : a ≠ b) (hn : ns ≤ 12) (hp : p < 2 ^ 28) (hq : q < 2 ^ 28) (ep : rcR N i h t d cr a = nI p) (eq : rcR N i h t d cr b = nI q) : (heR N i h t d cr (boR a b) ns = nI a ↔ 5 ≤ p ∧ 2 * q ≤ p) ∧ (heR N i h t d cr (boR a b) ns = nI b ↔ 5 ≤ q ∧ 2 * p ≤ q) := by
  have n1 := fun m (hm : m < 2 ^ 30) => nI_n1 hm
  have hab2 : ¬ nI a = nI b := fun z => hab (nI_inj (by omega) (by omega) z)
  have hoff : ∀ k, k < ns → offR N i h t d cr (boR a b) k = if k = a then nI p else if k = b then nI q else 0 := by
    intro k hk
    unfold offR
    rw [bo_bit (by omega) (by omega) (by omega)]
    by_cases h1 : k = b
    · subst h1
      rw [if_pos rfl, if_neg (by decide), if_neg (fun z => hab z.symm), if_pos rfl, eq]
    · rw [if_neg h1]
      by_cases h2 : k = a
      · subst h2
        rw [if_pos rfl, if_neg (by decide), if_pos rfl, ep]
      · rw [if_neg h2, if_pos rfl, if_neg h2, if_neg h1]
  unfold heR
  rw [fo_c ns hoff]
  rcases Nat.lt_or_gt_of_ne hab with hlt | hgt
  · rw [fo_two hlt (fun k w1 w2 => by rw [if_neg w1, if_neg w2]) ns, if_neg (by omega), if_neg (by omega), if_pos rfl, if_neg (fun z => hab z.symm), if_pos rfl]
    exact two_x hp hq (n1 a (by omega)).1 (n1 a (by omega)).2 (n1 b (by omega)).1 (n1 b (by omega)).2 hab2
  · rw [fo_two hgt (fun k w1 w2 => by rw [if_neg w2, if_neg w1]) ns, if_neg (by omega), if_neg (by omega), if_pos rfl, if_neg (fun z => hab z.symm), if_pos rfl]
    obtain ⟨z1, z2⟩ := two_x hq hp (n1 b (by omega)).1 (n1 b (by omega)).2 (n1 a (by omega)).1 (n1 a (by omega)).2 (fun z => hab2 z.symm)
    exact ⟨z2, z1⟩
/-- what the class hears with two stations -/
theorem ka_two {p q : Nat} (hp : p < 2 ^ 28) (hq : q < 2 ^ 28) : (verQ (hstep (hstep (0, -1, 0, 0) 0 (nI p)) 1 (nI q)) = 0 ↔ 5 ≤ p ∧ 2 * q ≤ p) ∧ (verQ (hstep (hstep (0, -1, 0, 0) 0 (nI p)) 1 (nI q)) = 1 ↔ 5 ≤ q ∧ 2 * p ≤ q) := by
  have e : verQ (hstep (hstep (0, -1, 0, 0) 0 (nI p)) 1 (nI q)) = vTwo 0 1 (nI p) (nI q) := by
    have z := ve_h (f := fun k => if k = 0 then nI p else nI q) (n := 2) (fun k hk => by
      show 0 ≤ (if k = 0 then nI p else nI q)
      split <;> exact nI_pos' (by omega))
    exact z
  rw [e]
  exact two_x hp hq (by decide) (by decide) (by decide) (by decide) (by decide)
/-- the probe after a dial -/
theorem ka_step {M N X : St} {i H ns a b aer cr t d : Nat} (hH : H < 1000000) (hn : ns ≤ 12) (ha : a < ns) (hb : b < ns) (hab : a ≠ b) (h : prP M N X i H ns aer cr) (h1 : 20 ≤ t) (h2 : t ≤ 200) (h3 : d ≤ 100) : prP M N (kaM X 0 16 a b d (nI t)) i H ns aer cr ∧ (verQ (getQ (kaM X 0 16 a b d (nI t)) 0) = 0 ↔ heR N i (nI H) (nI t) (nI d) (nI cr) (boR a b) ns = nI a) ∧ (verQ (getQ (kaM X 0 16 a b d (nI t)) 0) = 1 ↔ heR N i (nI H) (nI t) (nI d) (nI cr) (boR a b) ns = nI b) := by
  obtain ⟨q1, q2, q3⟩ := prP_tune (d := d) h h1 h2 h3
  obtain ⟨ea, p, hp, ep⟩ := rc_eq (q1.1 a ha) q2 hH
  obtain ⟨eb, q, hq, eq⟩ := rc_eq (q1.1 b hb) q2 hH
  have hx3 : tuneF X 16 (nI t) (nI d) 3 0 0 = nI H := q1.2.1
  have hs : ∀ (Y : St) (z : hQ) (k : Nat) (hh : Int32), strF (setQ Y 0 z) 16 k hh = strF Y 16 k hh := fun Y z k hh => by
    unfold strF setQ setH
    rw [mu_o (show (0 : Nat) ≠ 7 by omega), mu_o (show (0 : Nat) ≠ 6 by omega), mu_o (show (0 : Nat) ≠ 5 by omega), mu_o (show (0 : Nat) ≠ 4 by omega), mu_o (show (12 : Nat) ≠ 7 by omega), mu_o (show (12 : Nat) ≠ 6 by omega), mu_o (show (12 : Nat) ≠ 5 by omega), mu_o (show (12 : Nat) ≠ 4 by omega), mu_o (show (13 : Nat) ≠ 7 by omega), mu_o (show (13 : Nat) ≠ 6 by omega), mu_o (show (13 : Nat) ≠ 5 by omega), mu_o (show (13 : Nat) ≠ 4 by omega), mu_o (show (10 : Nat) ≠ 7 by omega), mu_o (show (10 : Nat) ≠ 6 by omega), mu_o (show (10 : Nat) ≠ 5 by omega), mu_o (show (10 : Nat) ≠ 4 by omega), mu_o (show (11 : Nat) ≠ 7 by omega), mu_o (show (11 : Nat) ≠ 6 by omega), mu_o (show (11 : Nat) ≠ 5 by omega), mu_o (show (11 : Nat) ≠ 4 by omega)]
  have h3' : ∀ (Y : St) (z : hQ), setQ Y 0 z 3 0 0 = Y 3 0 0 := fun Y z => by rw [setQ_scr (by unfold scrP; omega)]
  have hK : kaM X 0 16 a b d (nI t) = setQ (tuneF X 16 (nI t) (nI d)) 0 (hstep (hstep (0, -1, 0, 0) 0 (nI p)) 1 (nI q)) := by
    unfold kaM
    simp only [h3', hs, hx3, getQ_s, setQ_x, ep, eq]
  have hg : getQ (kaM X 0 16 a b d (nI t)) 0 = hstep (hstep (0, -1, 0, 0) 0 (nI p)) 1 (nI q) := by rw [hK]; exact getQ_s
  obtain ⟨k1, k2⟩ := ka_two hp hq
  obtain ⟨r1, r2⟩ := av_two (N := N) (i := i) (h := nI H) (t := nI t) (d := nI d) (cr := nI cr) ha hb hab hn hp hq (ea.symm.trans ep) (eb.symm.trans eq)
  rw [hg]
  exact ⟨by rw [hK]; exact prP_set q1, k1.trans r1.symm, k2.trans r2.symm⟩
theorem ka_all {M N X : St} {i H ns a b aer cr t : Nat} (hH : H < 1000000) (hn : ns ≤ 12) (ha : a < ns) (hb : b < ns) (hab : a ≠ b) (h : prP M N X i H ns aer cr) (h1 : 20 ≤ t) (h2 : t ≤ 200) (n8 : N 8 0 0 = nI H) (n12 : N 12 0 i = nI cr) : ∀ d, d ≤ 101 → prP M N (kaS X 0 16 a b (nI t) d) i H ns aer cr ∧ kaF X 0 16 a b (nI t) d = afR N i ns a b (nI t) d ∧ ((afR N i ns a b (nI t) d).1 = 0 ∨ (afR N i ns a b (nI t) d).1 = 1) ∧ ((afR N i ns a b (nI t) d).2 = 0 ∨ (afR N i ns a b (nI t) d).2 = 1)
  | 0, _ => ⟨h, rfl, Or.inl rfl, Or.inl rfl⟩
  | d + 1, hd => by
    obtain ⟨e1, e2, e3, e4⟩ := ka_all hH hn ha hb hab h h1 h2 n8 n12 d (by omega)
    obtain ⟨s1, s2, s3⟩ := ka_step (d := d) hH hn ha hb hab e1 h1 h2 (by omega)
    have w1 : (if kaV X 0 16 a b (nI t) (d + 1) = 0 then (1 : Int32) else 0) = if avR N i ns a b (nI t) d = nI a then 1 else 0 := by
      have : kaV X 0 16 a b (nI t) (d + 1) = 0 ↔ avR N i ns a b (nI t) d = nI a := by
        unfold avR
        rw [n8, n12]
        exact s2
      simp only [this]
    have w2 : (if kaV X 0 16 a b (nI t) (d + 1) = 1 then (1 : Int32) else 0) = if avR N i ns a b (nI t) d = nI b then 1 else 0 := by
      have : kaV X 0 16 a b (nI t) (d + 1) = 1 ↔ avR N i ns a b (nI t) d = nI b := by
        unfold avR
        rw [n8, n12]
        exact s3
      simp only [this]
    have key : ∀ (x z : Int32), (x = 0 ∨ x = 1) → (z = 0 ∨ z = 1) → (if x = 0 then z else 1) = x ||| z ∧ (x ||| z = 0 ∨ x ||| z = 1) := by
      intro x z hx hz
      rcases hx with rfl | rfl <;> rcases hz with rfl | rfl <;> exact ⟨by decide, by decide⟩
    have z1 : (if avR N i ns a b (nI t) d = nI a then (1 : Int32) else 0) = 0 ∨ (if avR N i ns a b (nI t) d = nI a then (1 : Int32) else 0) = 1 := by
      split
      · exact Or.inr rfl
      · exact Or.inl rfl
    have z2 : (if avR N i ns a b (nI t) d = nI b then (1 : Int32) else 0) = 0 ∨ (if avR N i ns a b (nI t) d = nI b then (1 : Int32) else 0) = 1 := by
      split
      · exact Or.inr rfl
      · exact Or.inl rfl
    refine ⟨s1, ?_, (key _ _ e3 z1).2, (key _ _ e4 z2).2⟩
    show ((if (kaF X 0 16 a b (nI t) d).1 = 0 then (if kaV X 0 16 a b (nI t) (d + 1) = 0 then (1 : Int32) else 0) else 1), (if (kaF X 0 16 a b (nI t) d).2 = 0 then (if kaV X 0 16 a b (nI t) (d + 1) = 1 then (1 : Int32) else 0) else 1)) = ((afR N i ns a b (nI t) d).1 ||| (if avR N i ns a b (nI t) d = nI a then 1 else 0), (afR N i ns a b (nI t) d).2 ||| (if avR N i ns a b (nI t) d = nI b then 1 else 0))
    rw [e2, w1, w2, (key _ _ e3 z1).1, (key _ _ e4 z2).1]
theorem kaP_up {X : St} {a b d : Nat} {t : Int32} (h : kaP X 0 16 a b t d) : kaP X 0 16 a b t (d + 1) := by
  unfold kaP at h ⊢
  constructor
  · show ¬ (if (kaF X 0 16 a b t d).1 = 0 then (if kaV X 0 16 a b t (d + 1) = 0 then (1 : Int32) else 0) else 1) = 0
    rw [if_neg h.1]; decide
  · show ¬ (if (kaF X 0 16 a b t d).2 = 0 then (if kaV X 0 16 a b t (d + 1) = 1 then (1 : Int32) else 0) else 1) = 0
    rw [if_neg h.2]; decide
theorem kaP_add {X : St} {a b d : Nat} {t : Int32} (h : kaP X 0 16 a b t d) : ∀ k, kaP X 0 16 a b t (d + k)
  | 0 => h
  | k + 1 => kaP_up (kaP_add h k)
theorem kaE_sp {X : St} {a b : Nat} {t : Int32} : ∀ q d, kaE X 0 16 a b t q d ≤ d + q ∧ (kaE X 0 16 a b t q d = d + q ∨ kaP X 0 16 a b t (kaE X 0 16 a b t q d))
  | 0, d => ⟨Nat.le_refl d, Or.inl rfl⟩
  | q + 1, d => by
    obtain ⟨i1, i2⟩ := kaE_sp (X := X) (a := a) (b := b) (t := t) q (d + 1)
    rcases Classical.em (kaP X 0 16 a b t d) with h | h
    · have e : kaE X 0 16 a b t (q + 1) d = d := @if_pos _ (Classical.propDecidable _) h _ _ _
      rw [e]
      exact ⟨by omega, Or.inr h⟩
    · have e : kaE X 0 16 a b t (q + 1) d = kaE X 0 16 a b t q (d + 1) := @if_neg _ (Classical.propDecidable _) h _ _ _
      rw [e]
      exact ⟨by omega, i2.imp (fun z => by omega) id⟩
theorem ka_fin {X : St} {a b : Nat} {t : Int32} : kaP X 0 16 a b t (kaE X 0 16 a b t 101 0) ↔ kaP X 0 16 a b t 101 := by
  obtain ⟨i1, i2⟩ := kaE_sp (X := X) (a := a) (b := b) (t := t) 101 0
  constructor
  · intro h
    have z := kaP_add h (101 - kaE X 0 16 a b t 101 0)
    rw [show kaE X 0 16 a b t 101 0 + (101 - kaE X 0 16 a b t 101 0) = 101 by omega] at z
    exact z
  · intro h
    rcases i2 with e | e
    · rw [e]; exact h
    · exact e
/-- coil by coil -/
theorem ap_all {M N : St} {ns nm H i a b : Nat} (h : Rel M N ns nm H) (hH : H < 1000000) (hi : i < nm) (ha : a < ns) (hb : b < ns) (hab : a ≠ b) : ∃ aer cr : Nat, N 8 0 0 = nI H ∧ N 12 0 i = nI cr ∧ ∀ d, d ≤ 181 → prP M N (apS M (8 * 0 + i) a b d) i H ns aer cr := by
  obtain ⟨t, dd, cr, aer, ⟨b1, b2, b3⟩, hp, h8, n8, n4, n5, n12⟩ := pr_0 h hi
  refine ⟨aer, cr, n8, n12, fun d => ?_⟩
  induction d with
  | zero => intro _; exact hp
  | succ d ih =>
    intro hd
    have e := ih (by omega)
    obtain ⟨i1, -⟩ := kaE_sp (X := apS M (8 * 0 + i) a b d) (a := a) (b := b) (t := nI (20 + d)) 101 0
    exact (ka_all hH h.1.1.1.1 ha hb hab e (show 20 ≤ 20 + d by omega) (by omega) n8 n12 _ (by omega)).1
theorem apE_eq {M N : St} {ns nm H i a b : Nat} (h : Rel M N ns nm H) (hH : H < 1000000) (hi : i < nm) (ha : a < ns) (hb : b < ns) (hab : a ≠ b) : ∀ q d, d + q = 181 → apR (apE M (8 * 0 + i) a b q d) = arR N i ns a b q d ∧ apE M (8 * 0 + i) a b q d ≤ 181
  | 0, d, e => by
    unfold apE arR apR
    exact ⟨if_neg (by omega), by omega⟩
  | q + 1, d, e => by
    obtain ⟨ih, il⟩ := apE_eq h hH hi ha hb hab q (d + 1) (by omega)
    obtain ⟨aer, cr, n8, n12, hp⟩ := ap_all h hH hi ha hb hab
    have e2 := (ka_all hH h.1.1.1.1 ha hb hab (hp d (by omega)) (show 20 ≤ 20 + d by omega) (by omega) n8 n12 101 (Nat.le_refl 101)).2.1
    have hV : apV M (8 * 0 + i) a b d = b2 (¬ (afR N i ns a b (nI (20 + d)) 101).1 = 0 ∧ ¬ (afR N i ns a b (nI (20 + d)) 101).2 = 0) := by
      unfold apV
      refine b2_c ?_
      rw [ka_fin]
      unfold kaP
      rw [e2]
    unfold apE arR
    rw [hV]
    by_cases z1 : (afR N i ns a b (nI (20 + d)) 101).1 = 0
    · rw [if_pos (b2_f (fun z => z.1 z1)), if_pos z1]
      exact ⟨ih, il⟩
    · rw [if_neg z1]
      by_cases z2 : (afR N i ns a b (nI (20 + d)) 101).2 = 0
      · rw [if_pos (b2_f (fun z => z.2 z2)), if_pos z2]
        exact ⟨ih, il⟩
      · rw [if_neg (fun z => b2_0 z ⟨z1, z2⟩), if_neg z2]
        exact ⟨if_pos (by omega), by omega⟩
theorem apart_told {M N : St} {ns nm H i a b : Nat} (h : Rel M N ns nm H) (hH : H < 1000000) (hi : i < nm) (ha : a < ns) (hb : b < ns) (hab : a ≠ b) : apR (apE M (8 * 0 + i) a b 181 0) = arR N i ns a b 181 0 ∧ Rel (apS M (8 * 0 + i) a b (apK (apE M (8 * 0 + i) a b 181 0))) N ns nm H := by
  obtain ⟨aer, cr, n8, n12, hp⟩ := ap_all h hH hi ha hb hab
  refine ⟨(apE_eq h hH hi ha hb hab 181 0 rfl).1, h.scr2 (hp _ ?_).2.2.2.2.2.2⟩
  unfold apK
  split <;> omega
