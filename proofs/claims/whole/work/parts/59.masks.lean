/-! masks: a bit each, and how many -/
def bw (k : Nat) : Int32 := 1 <<< (nI k &&& 31)
def mskB (p : Nat → Bool) : Nat → Int32
  | 0 => 0
  | n + 1 => if p n then mskB p n ||| bw n else mskB p n
def cntB (p : Nat → Bool) : Nat → Int32
  | 0 => 0
  | n + 1 => if p n then cntB p n + 1 else cntB p n
theorem mskB_c {p q : Nat → Bool} : ∀ n, (∀ k, k < n → p k = q k) → mskB p n = mskB q n
  | 0, _ => rfl
  | n + 1, h => by
    unfold mskB
    rw [mskB_c n (fun k hk => h k (by omega)), h n (by omega)]
theorem cntB_c {p q : Nat → Bool} : ∀ n, (∀ k, k < n → p k = q k) → cntB p n = cntB q n
  | 0, _ => rfl
  | n + 1, h => by
    unfold cntB
    rw [cntB_c n (fun k hk => h k (by omega)), h n (by omega)]
theorem mskB_x {p : Nat → Bool} {n : Nat} : ∀ m, (∀ k, n ≤ k → k < n + m → p k = false) → mskB p (n + m) = mskB p n
  | 0, _ => rfl
  | m + 1, h => by
    show (if p (n + m) then mskB p (n + m) ||| bw (n + m) else mskB p (n + m)) = _
    rw [h (n + m) (by omega) (by omega), if_neg (by decide)]
    exact mskB_x m (fun k a b => h k a (by omega))
theorem cntB_x {p : Nat → Bool} {n : Nat} : ∀ m, (∀ k, n ≤ k → k < n + m → p k = false) → cntB p (n + m) = cntB p n
  | 0, _ => rfl
  | m + 1, h => by
    show (if p (n + m) then cntB p (n + m) + 1 else cntB p (n + m)) = _
    rw [h (n + m) (by omega) (by omega), if_neg (by decide)]
    exact cntB_x m (fun k a b => h k a (by omega))
theorem i_dis (a b c : Int32) : (a ||| b) &&& c = (a &&& c) ||| (b &&& c) := by
  apply Int32.toBitVec_inj.mp
  simp only [Int32.toBitVec_and, Int32.toBitVec_or]
  ext i hi
  simp only [BitVec.getElem_and, BitVec.getElem_or, Bool.and_or_distrib_right]
theorem i_orS (a b : Int32) : a ||| b ||| b = a ||| b := by
  apply Int32.toBitVec_inj.mp
  simp only [Int32.toBitVec_or]
  ext i hi
  simp only [BitVec.getElem_or, Bool.or_assoc, Bool.or_self]
theorem i_orX (a b c : Int32) : a ||| b ||| c = a ||| c ||| b := by
  apply Int32.toBitVec_inj.mp
  simp only [Int32.toBitVec_or]
  ext i hi
  simp only [BitVec.getElem_or, Bool.or_assoc]
  rw [Bool.or_comm b.toBitVec[i]]
theorem i_or0 (a b : Int32) (h : b = 0) : a ||| b = a := by
  subst h
  apply Int32.toBitVec_inj.mp
  simp
theorem i_orZ {a b : Int32} (h : ¬ b = 0) : ¬ a ||| b = 0 := by
  intro z
  apply h
  apply Int32.toBitVec_inj.mp
  have z' : (a ||| b).toBitVec = (0 : Int32).toBitVec := congrArg _ z
  simp only [Int32.toBitVec_or] at z'
  ext i hi
  have e := congrArg (fun v : BitVec 32 => v[i]) z'
  simp only [BitVec.getElem_or] at e
  have e0 : (0 : Int32).toBitVec[i] = false := by
    show (0#32)[i] = false
    exact BitVec.getElem_zero hi
  rw [e0] at e ⊢
  exact (Bool.or_eq_false_iff.mp e).2
theorem bw_tab : ∀ k, k < 31 → ∀ j, j < 31 → bw j &&& bw k = if k = j then bw k else 0 := by decide +kernel
theorem bw_0 : ∀ k, k < 31 → ¬ bw k = 0 := by decide +kernel
/-- a mask holds a bit just when it was put in -/
theorem msk_and {p : Nat → Bool} {k : Nat} (hk : k < 31) : ∀ n, n ≤ 31 → (mskB p n &&& bw k = 0 ↔ ¬ (k < n ∧ p k = true))
  | 0, _ => by
    constructor
    · intro _ z; exact absurd z.1 (by omega)
    · intro _
      show (0 : Int32) &&& bw k = 0
      apply Int32.toBitVec_inj.mp
      simp
  | n + 1, hn => by
    have ih := msk_and (p := p) hk n (by omega)
    unfold mskB
    by_cases hp : p n = true
    · rw [if_pos hp, i_dis, bw_tab k hk n (by omega)]
      by_cases hkn : k = n
      · subst hkn
        rw [if_pos rfl]
        constructor
        · intro z; exact absurd z (i_orZ (bw_0 k hk))
        · intro z; exact absurd ⟨by omega, hp⟩ z
      · rw [if_neg hkn, i_or0 _ _ rfl, ih]
        have : k < n + 1 ↔ k < n := by omega
        rw [this]
    · rw [if_neg hp, ih]
      by_cases hkn : k = n
      · subst hkn
        constructor
        · intro _ z; exact hp z.2
        · intro _ z; exact hp z.2
      · have : k < n + 1 ↔ k < n := by omega
        rw [this]
/-- how many bits -/
theorem bc_tab' : ∀ a, a < 64 → ∀ b, b < 64 → bcF (mskB (fun k => (64 * a + b).testBit k) 12) = cntB (fun k => (64 * a + b).testBit k) 12 := by decide +kernel
theorem bc_tab (m : Nat) (h : m < 4096) : bcF (mskB (fun k => m.testBit k) 12) = cntB (fun k => m.testBit k) 12 := by
  have e := bc_tab' (m / 64) (by omega) (m % 64) (by omega)
  rw [show 64 * (m / 64) + m % 64 = m by omega] at e
  exact e
theorem ex_mask : ∀ (n : Nat) (p : Nat → Bool), ∃ m, m < 2 ^ n ∧ ∀ k, k < n → m.testBit k = p k
  | 0, _ => ⟨0, by omega, fun k hk => absurd hk (by omega)⟩
  | n + 1, p => by
    obtain ⟨m, hm, h⟩ := ex_mask n (fun k => p (k + 1))
    refine ⟨2 * m + (p 0).toNat, ?_, fun k hk => ?_⟩
    · have : (p 0).toNat ≤ 1 := Bool.toNat_le (p 0)
      rw [Nat.pow_succ]
      omega
    · have hb : (p 0).toNat ≤ 1 := Bool.toNat_le (p 0)
      cases k with
      | zero =>
        rw [Nat.testBit_zero]
        cases hp : p 0
        · show decide ((2 * m + 0) % 2 = 1) = false
          exact decide_eq_false (by omega)
        · show decide ((2 * m + 1) % 2 = 1) = true
          exact decide_eq_true (by omega)
      | succ k =>
        rw [Nat.testBit_succ, show (2 * m + (p 0).toNat) / 2 = m by omega]
        exact h k (by omega)
theorem bc_msk {p : Nat → Bool} {n : Nat} (hn : n ≤ 12) : bcF (mskB p n) = cntB p n := by
  obtain ⟨m, hm, h⟩ := ex_mask 12 (fun k => p k && decide (k < n))
  have e1 : mskB (fun k => m.testBit k) 12 = mskB p n := by
    rw [mskB_c 12 h, show 12 = n + (12 - n) by omega, mskB_x (12 - n) (fun k a b => by rw [decide_eq_false (by omega), Bool.and_false])]
    exact mskB_c n (fun k hk => by rw [decide_eq_true hk, Bool.and_true])
  have e2 : cntB (fun k => m.testBit k) 12 = cntB p n := by
    rw [cntB_c 12 h, show 12 = n + (12 - n) by omega, cntB_x (12 - n) (fun k a b => by rw [decide_eq_false (by omega), Bool.and_false])]
    exact cntB_c n (fun k hk => by rw [decide_eq_true hk, Bool.and_true])
  rw [← e1, ← e2]
  exact bc_tab m hm
/-- a bit more -/
theorem mskB_or {p : Nat → Bool} {s : Nat} : ∀ n, mskB (fun k => p k || decide (k = s)) n = if s < n then mskB p n ||| bw s else mskB p n
  | 0 => rfl
  | n + 1 => by
    have ih := mskB_or (p := p) (s := s) n
    show (if (p n || decide (n = s)) then mskB (fun k => p k || decide (k = s)) n ||| bw n else mskB (fun k => p k || decide (k = s)) n) = if s < n + 1 then (if p n then mskB p n ||| bw n else mskB p n) ||| bw s else (if p n then mskB p n ||| bw n else mskB p n)
    rw [ih]
    by_cases hs : n = s
    · subst hs
      rw [decide_eq_true rfl, Bool.or_true, if_pos rfl, if_neg (show ¬ n < n by omega), if_pos (show n < n + 1 by omega)]
      by_cases hp : p n = true
      · rw [if_pos hp, i_orS]
      · rw [if_neg hp]
    · rw [decide_eq_false hs, Bool.or_false]
      by_cases h : s < n
      · rw [if_pos h, if_pos (show s < n + 1 by omega)]
        by_cases hp : p n = true
        · rw [if_pos hp, if_pos hp, i_orX]
        · rw [if_neg hp, if_neg hp]
      · rw [if_neg h, if_neg (show ¬ s < n + 1 by omega)]
/-- the cards as a mask -/
def pC (M : St) (j k : Nat) : Nat → Bool
  | 0 => false
  | L + 1 => if M 16 j (L * 4 + 3) = 1 then pC M j k L || decide (M 16 j (L * 4 + 1) = nI k) else pC M j k L
theorem pC_iff {M : St} {j k : Nat} : ∀ L, pC M j k L = true ↔ ∃ l, l < L ∧ M 16 j (l * 4 + 1) = nI k ∧ M 16 j (l * 4 + 3) = 1
  | 0 => ⟨fun h => Bool.noConfusion h, fun ⟨l, h, _⟩ => absurd h (by omega)⟩
  | L + 1 => by
    have ih := pC_iff (M := M) (j := j) (k := k) L
    unfold pC
    by_cases h1 : M 16 j (L * 4 + 3) = 1
    · rw [if_pos h1, Bool.or_eq_true, decide_eq_true_iff, ih]
      constructor
      · rintro (⟨l, hl, z⟩ | z)
        · exact ⟨l, by omega, z⟩
        · exact ⟨L, by omega, z, h1⟩
      · rintro ⟨l, hl, z⟩
        by_cases hlL : l = L
        · subst hlL; exact Or.inr z.1
        · exact Or.inl ⟨l, by omega, z⟩
    · rw [if_neg h1, ih]
      constructor
      · rintro ⟨l, hl, z⟩
        exact ⟨l, by omega, z⟩
      · rintro ⟨l, hl, z⟩
        by_cases hlL : l = L
        · subst hlL; exact absurd z.2 h1
        · exact ⟨l, by omega, z⟩
theorem crd_msk {M : St} {j : Nat} : ∀ L, (∀ l, l < L → ∃ s, s < 12 ∧ M 16 j (l * 4 + 1) = nI s) → crdF M j L = mskB (fun k => pC M j k L) 12
  | 0, _ => by
    have e := mskB_x (p := fun k => pC M j k 0) (n := 0) 12 (fun k _ _ => rfl)
    exact (show mskB (fun k => pC M j k 0) 12 = 0 from e).symm
  | L + 1, h => by
    have ih := crd_msk (M := M) (j := j) L (fun l hl => h l (by omega))
    obtain ⟨s, hs, e⟩ := h L (by omega)
    unfold crdF pC
    by_cases h1 : M 16 j (L * 4 + 3) = 1
    · rw [if_pos h1]
      simp only [if_pos h1]
      have : mskB (fun k => pC M j k L || decide (M 16 j (L * 4 + 1) = nI k)) 12 = mskB (fun k => pC M j k L || decide (k = s)) 12 := mskB_c 12 (fun k hk => by
        rw [e]
        congr 1
        by_cases hks : k = s
        · subst hks; rw [decide_eq_true rfl, decide_eq_true rfl]
        · rw [decide_eq_false hks, decide_eq_false (fun z => hks (nI_inj (by omega) (by omega) z).symm)])
      rw [this, mskB_or, if_pos hs, ih, e]
      rfl
    · rw [if_neg h1]
      simp only [if_neg h1]
      exact ih
