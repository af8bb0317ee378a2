/-! both sides reckon alike: the air, the fading, the strength -/
theorem i_sac (a b c : Int32) : a - b + c = a + c - b := by
  rw [Int32.sub_eq_add_neg, Int32.add_assoc, Int32.add_comm (-b) c, ← Int32.add_assoc, ← Int32.sub_eq_add_neg]
theorem rmdN {n d : Nat} (hn : n < 2 ^ 31) (h0 : 0 < d) (hd : d < 2 ^ 31) : rmd (nI n) (nI d) = nI (n % d) := pk_rem hn h0 hd
theorem air_eq {F H : Nat} (hF : F < 24) (hH : H < 1000000) : rmd (rmd (nI H) 24 - nI F + 24) 24 = rmd (nI H + 24 - nI F) 24 := by
  have e1 : rmd (nI H) 24 = nI (H % 24) := rmdN (d := 24) (by omega) (by omega) (by omega)
  have e2 : nI (H % 24) - nI F + 24 = nI (H % 24 + 24 - F) := by
    rw [i_sac, show nI (H % 24) + 24 = nI (H % 24 + 24) from nI_add _ 24, pk_sub (by omega)]
  have e3 : nI H + 24 - nI F = nI (H + 24 - F) := by
    rw [show nI H + 24 = nI (H + 24) from nI_add _ 24, pk_sub (by omega)]
  rw [e1, e2, e3]
  rw [show rmd (nI (H % 24 + 24 - F)) 24 = nI ((H % 24 + 24 - F) % 24) from rmdN (d := 24) (by omega) (by omega) (by omega), show rmd (nI (H + 24 - F)) 24 = nI ((H + 24 - F) % 24) from rmdN (d := 24) (by omega) (by omega) (by omega)]
  congr 1
  omega
theorem fad_tab : ∀ R, R < 12 → (if 0 ≤ nI R - 6 then 4 + (nI R - 6) else 4 + -(nI R - 6)) = 4 + absR (6 - nI R) ∧ ∃ f, f ≤ 10 ∧ (4 + absR (6 - nI R) = nI f) := by
  have h : ∀ R, R < 12 → (if 0 ≤ nI R - 6 then 4 + (nI R - 6) else 4 + -(nI R - 6)) = 4 + absR (6 - nI R) := by decide
  have g : ∀ R, R < 12 → ∃ f, f < 11 ∧ (4 + absR (6 - nI R) = nI f) := by decide
  intro R hR
  obtain ⟨f, hf, e⟩ := g R hR
  exact ⟨h R hR, f, by omega, e⟩
theorem fad_eq {P H : Nat} (hP : P < 12) (hH : H < 1000000) : fadF (nI P) (nI H) = 4 + absR (6 - rmd (nI H + nI P) 12) ∧ ∃ f, f ≤ 10 ∧ 4 + absR (6 - rmd (nI H + nI P) 12) = nI f := by
  have e : rmd (nI H + nI P) 12 = nI ((H + P) % 12) := by
    rw [nI_add]
    exact rmdN (d := 12) (by omega) (by omega) (by omega)
  unfold fadF
  rw [e]
  exact fad_tab _ (Nat.mod_lt _ (by omega))
theorem abs_nat {a b : Nat} (ha : a < 2 ^ 30) (hb : b < 2 ^ 30) : absR (nI a - nI b) = nI (if b ≤ a then a - b else b - a) := by
  unfold absR
  by_cases h : b ≤ a
  · rw [if_pos h, pk_sub h, if_pos (nI_pos' (by omega))]
  · have h1 : nI a - nI b < 0 := pk_sneg hb (by omega)
    rw [if_neg h, if_neg (fun z => absurd h1 (Int32.not_lt.mpr z))]
    apply Int32.toInt_inj.mp
    rw [Int32.toInt_sub, pk_sub_toInt ha hb, nI_toInt (by omega), show (0 : Int32).toInt = 0 from rfl, Int.bmod_eq_of_le (by omega) (by omega)]
    omega
theorem sub_pos {w d : Nat} (hw : w < 2 ^ 30) (hd : d < 2 ^ 30) : 0 < nI w - nI d ↔ nI d < nI w := by
  rw [i_lt, i_lt, pk_sub_toInt hw hd, nI_toInt (by omega), nI_toInt (by omega), show (0 : Int32).toInt = 0 from rfl]
  omega
/-- the strength: one number for both, not below 0 -/
theorem str_eq {fr pw fa fad tun wid aer cry : Nat} (h1 : fr < 2 ^ 30) (h2 : tun < 2 ^ 30) (h3 : wid < 2 ^ 30) (h4 : 0 < wid) (h5 : 0 < fa) (h6 : fa ≤ 50) : strN (nI fr) (nI pw) (nI fa) (nI fad) (nI tun) (nI wid) (nI aer) (nI cry) = rcN (nI fr) (nI pw) (nI fa) (nI fad) (nI aer) (nI tun) (nI wid) (nI cry) := by
  have hd : distF (nI fr) (nI tun) = absR (nI fr - nI tun) := dist_abs (nI_pos' (by omega)) (nI_pos' (by omega))
  have hz : ¬ (10 * nI fa : Int32) = 0 := by
    rw [show (10 * nI fa : Int32) = nI (10 * fa) from pk_mul 10 fa]
    intro q
    have := nI_inj (a := 10 * fa) (b := 0) (by omega) (by omega) q
    omega
  have hw : ¬ nI wid = 0 := fun q => by
    have := nI_inj (a := wid) (b := 0) (by omega) (by omega) q
    omega
  unfold strN rcN quoF
  rw [hd, if_neg hz, if_neg hw]
  have e : ∃ d, d < 2 ^ 30 ∧ absR (nI fr - nI tun) = nI d := ⟨_, by split <;> omega, abs_nat h1 h2⟩
  obtain ⟨d, hd2, e⟩ := e
  rw [e]
  by_cases h : nI d < nI wid
  · rw [if_pos h, if_pos ((sub_pos h3 hd2).mpr h)]
  · rw [if_neg h, if_neg (fun z => h ((sub_pos h3 hd2).mp z))]
