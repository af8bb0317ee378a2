/-! both sides hear alike -/
theorem i_lt {a b : Int32} : a < b ↔ a.toInt < b.toInt := Int32.lt_iff_toInt_lt
theorem i_le {a b : Int32} : a ≤ b ↔ a.toInt ≤ b.toInt := Int32.le_iff_toInt_le
theorem i_ne {a b : Int32} : ¬ a = b ↔ ¬ a.toInt = b.toInt := not_congr ⟨congrArg _, Int32.toInt_inj.mp⟩
theorem pos_nz {s : Int32} (h : 0 ≤ s) : (0 < s) ↔ ¬ s = 0 := by
  rw [i_lt, i_ne]
  have := i_le.mp h
  rw [show (0 : Int32).toInt = 0 from rfl] at *
  omega
theorem lt2_le1 {x : Int32} : x < 2 ↔ x ≤ 1 := by
  rw [i_lt, i_le, show (2 : Int32).toInt = 2 from rfl, show (1 : Int32).toInt = 1 from rfl]
  omega
/-- the class's fold and the reference's -/
theorem fo_h {f : Nat → Int32} : ∀ n, (∀ k, k < n → 0 ≤ f k) → hfold f n = ((foR f n).2.2.2, (foR f n).1, (foR f n).2.1, (foR f n).2.2.1)
  | 0, _ => rfl
  | n + 1, h => by
    have ih := fo_h n (fun k hk => h k (by omega))
    have hs := h n (by omega)
    show hstep (hfold f n) (nI n) (f n) = ((stR (foR f n) (nI n) (f n)).2.2.2, (stR (foR f n) (nI n) (f n)).1, (stR (foR f n) (nI n) (f n)).2.1, (stR (foR f n) (nI n) (f n)).2.2.1)
    rw [ih]
    generalize foR f n = q
    obtain ⟨a, b, c, d⟩ := q
    unfold hstep stR
    by_cases h0 : f n = 0
    · rw [if_neg (fun z => (pos_nz hs).mp z h0), if_pos h0]
    · rw [if_pos ((pos_nz hs).mpr h0), if_neg h0]
      by_cases h1 : f n ≤ b
      · simp only [if_pos h1]
        by_cases h2 : f n ≤ c
        · rw [if_pos h2, if_neg (Int32.not_lt.mpr h2)]
        · rw [if_neg h2, if_pos (Int32.not_le.mp h2)]
      · simp only [if_neg h1]
theorem ve_h {f : Nat → Int32} {n : Nat} (h : ∀ k, k < n → 0 ≤ f k) : verQ (hfold f n) = veR (foR f n) := by
  rw [fo_h n h]
  unfold verQ veR
  simp only [lt2_le1]
theorem ho_c {f g : Nat → Int32} : ∀ n, (∀ k, k < n → f k = g k) → hfold f n = hfold g n
  | 0, _ => rfl
  | n + 1, h => by
    show hstep (hfold f n) (nI n) (f n) = hstep (hfold g n) (nI n) (g n)
    rw [ho_c n (fun k hk => h k (by omega)), h n (by omega)]
theorem fo_c {f g : Nat → Int32} : ∀ n, (∀ k, k < n → f k = g k) → foR f n = foR g n
  | 0, _ => rfl
  | n + 1, h => by
    show stR (foR f n) (nI n) (f n) = stR (foR g n) (nI n) (g n)
    rw [fo_c n (fun k hk => h k (by omega)), h n (by omega)]
/-- the distance, the fading -/
theorem dist_abs {a b : Int32} (ha : 0 ≤ a) (hb : 0 ≤ b) : distF a b = absR (a - b) := by
  have h1 := i_le.mp ha
  have h2 := i_le.mp hb
  rw [show (0 : Int32).toInt = 0 from rfl] at h1 h2
  have ra := Int32.toInt_lt a
  have rb := Int32.toInt_lt b
  have hd : (a - b).toInt = a.toInt - b.toInt := by
    rw [Int32.toInt_sub]
    exact Int.bmod_eq_of_le (by omega) (by omega)
  unfold distF absR
  by_cases h : b ≤ a
  · have := i_le.mp h
    rw [if_pos h, if_pos (i_le.mpr (by rw [hd]; show 0 ≤ _; omega))]
  · have h3 := i_lt.mp (Int32.not_le.mp h)
    rw [if_neg h, if_neg (fun z => by have := i_le.mp z; rw [hd] at this; rw [show (0 : Int32).toInt = 0 from rfl] at this; omega)]
    apply Int32.toInt_inj.mp
    rw [Int32.toInt_sub, Int32.toInt_sub, hd, show (0 : Int32).toInt = 0 from rfl]
    congr 1
    omega
/-- a mask's bits -/
def mskF (p : Nat → Prop) [DecidablePred p] : Nat → Int32
  | 0 => 0
  | k + 1 => if p k then mskF p k ||| (1 <<< (nI k &&& 31)) else mskF p k
