/-! masks: a bit for each -/
theorem bit_or {a : Int32} {j k : Nat} (hj : j < 31) (hk : k < 31) : bitR (a ||| (1 <<< (nI j &&& 31))) k = if k = j then 1 else bitR a k := by
  have hs : (nI j &&& 31 : Int32) = nI j := by
    rw [pk_andN (by omega) 5 (by decide), Nat.mod_eq_of_lt (by omega)]
  have hk2 : (nI k &&& 31 : Int32) = nI k := by
    rw [pk_andN (by omega) 5 (by decide), Nat.mod_eq_of_lt (by omega)]
  have tab : ∀ k, k < 31 → ∀ j, j < 31 → ((((1 : Int32) <<< nI j) >>> nI k) &&& 1) = if k = j then 1 else 0 := by decide +kernel
  unfold bitR
  rw [hs, hk2]
  have hor : (a ||| ((1 : Int32) <<< nI j)) >>> nI k &&& 1 = (a >>> nI k &&& 1) ||| ((((1 : Int32) <<< nI j) >>> nI k) &&& 1) := by
    apply Int32.toBitVec_inj.mp
    simp only [Int32.toBitVec_and, Int32.toBitVec_or, Int32.toBitVec_shiftRight]
    ext i hi
    simp only [BitVec.getElem_and, BitVec.getElem_or]
    generalize ((1 : Int32) <<< nI j).toBitVec = y
    generalize a.toBitVec = x
    have key : ∀ s : Nat, ((x ||| y).sshiftRight s)[i] = ((x.sshiftRight s)[i] || (y.sshiftRight s)[i]) := by
      intro s
      rw [BitVec.getElem_sshiftRight, BitVec.getElem_sshiftRight, BitVec.getElem_sshiftRight]
      split
      · exact BitVec.getElem_or ..
      · exact BitVec.msb_or
    show (((x ||| y).sshiftRight _)[i] && _) = ((x.sshiftRight _)[i] && _ || (y.sshiftRight _)[i] && _)
    rw [key, Bool.and_or_distrib_right]
  rw [hor, tab k hk j hj]
  by_cases h : k = j
  · rw [if_pos h, if_pos h]
    have hb : a >>> nI k &&& 1 = 0 ∨ a >>> nI k &&& 1 = 1 := by
      obtain ⟨m, hm, e⟩ := pk_andE (a >>> nI k) (m := 1) 1 (by decide)
      rw [e]
      rcases (show m = 0 ∨ m = 1 by omega) with rfl | rfl
      · exact Or.inl rfl
      · exact Or.inr rfl
    rcases hb with h0 | h0 <;> rw [h0] <;> rfl
  · rw [if_neg h, if_neg h]
    simp
theorem bit_0 {k : Nat} : bitR 0 k = 0 := by
  unfold bitR
  have : (0 : Int32) >>> (nI k &&& 31) = 0 := by
    apply Int32.toBitVec_inj.mp
    simp [Int32.toBitVec_shiftRight]
  rw [this]
  rfl
theorem on_bit {M : St} {h : Int32} {k : Nat} (hk : k < 31) : ∀ n, n ≤ 31 → bitR (onR M h n) k = if k < n ∧ ¬ M 0 0 (6 * k + 4) ≤ rmd (h + 24 - M 0 0 (6 * k + 3)) 24 then 1 else 0
  | 0, _ => by
    rw [if_neg (by omega)]
    exact bit_0
  | n + 1, hn => by
    have ih := on_bit (M := M) (h := h) hk n (by omega)
    show bitR (if M 0 0 (6 * n + 4) ≤ rmd (h + 24 - M 0 0 (6 * n + 3)) 24 then onR M h n else onR M h n ||| (1 <<< (nI n &&& 31))) k = _
    by_cases hc : M 0 0 (6 * n + 4) ≤ rmd (h + 24 - M 0 0 (6 * n + 3)) 24
    · rw [if_pos hc, ih]
      by_cases hkn : k = n
      · subst hkn
        rw [if_neg (by omega), if_neg (fun z => z.2 hc)]
      · have : k < n + 1 ↔ k < n := by omega
        simp only [this]
    · rw [if_neg hc, bit_or (by omega) hk, ih]
      by_cases hkn : k = n
      · subst hkn
        rw [if_pos rfl, if_pos ⟨by omega, hc⟩]
      · rw [if_neg hkn]
        have : k < n + 1 ↔ k < n := by omega
        simp only [this]
