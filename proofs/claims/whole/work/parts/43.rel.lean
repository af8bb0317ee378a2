/-! a station's numbers on both sides; what a set hears on both sides -/
def stOk (M N : St) (k : Nat) : Prop := ∃ fr pw fa fm ho ph : Nat, (fr ≤ 3000 ∧ pw ≤ 100 ∧ 1 ≤ fa ∧ fa ≤ 50 ∧ fm < 24 ∧ ho ≤ 24 ∧ ph < 12) ∧ (M 0 k 0 = nI fr ∧ M 0 k 1 = nI pw ∧ M 0 k 2 = nI fa ∧ M 0 k 3 = nI fm ∧ M 0 k 4 = nI ho ∧ M 0 k 5 = nI ph) ∧ (N 0 0 (6 * k) = nI fr ∧ N 0 0 (6 * k + 1) = nI pw ∧ N 0 0 (6 * k + 2) = nI fa ∧ N 0 0 (6 * k + 3) = nI fm ∧ N 0 0 (6 * k + 4) = nI ho ∧ N 0 0 (6 * k + 5) = nI ph)
/-- set j at coil t and dial d, crystal cr, aerial a (the reference's member i) -/
def seOk (M N : St) (j i t d cr a : Nat) : Prop := (20 ≤ t ∧ t ≤ 200 ∧ d ≤ 100 ∧ cr ≤ 9 ∧ a ≤ 60) ∧ M 12 j 0 = nI (100000 / (t + d)) ∧ M 13 j 0 = nI (80 - t / 3) ∧ M 10 j 0 = nI a ∧ M 11 j 0 = nI cr ∧ N 6 0 i = nI a
theorem wid_nat {t : Nat} (h : t ≤ 200) : widF (nI t) = nI (80 - t / 3) := by
  have tab : ∀ t, t < 201 → widF (nI t) = nI (80 - t / 3) := by decide +kernel
  exact tab t (by omega)
theorem tun_nat {t d : Nat} (h1 : 20 ≤ t) (h2 : t ≤ 200) (h3 : d ≤ 100) : (100000 : Int32) / (nI t + nI d) = nI (100000 / (t + d)) := by
  rw [nI_add]
  exact pk_div (a := 100000) (by omega) (by omega) (by omega)
theorem rcN_nat {fr pw fa fad aer tun wid cr : Nat} (h1 : fr < 2 ^ 30) (h2 : tun < 2 ^ 30) (h3 : wid ≤ 80) (h4 : 0 < wid) (h5 : 0 < fa) (h6 : fa ≤ 50) (h7 : pw ≤ 100) (h8 : fad ≤ 10) (h9 : aer ≤ 60) (h10 : cr ≤ 9) : ∃ s, s < 2 ^ 28 ∧ rcN (nI fr) (nI pw) (nI fa) (nI fad) (nI aer) (nI tun) (nI wid) (nI cr) = nI s := by
  unfold rcN
  obtain ⟨d, hd2, e⟩ : ∃ d, d < 2 ^ 30 ∧ absR (nI fr - nI tun) = nI d := ⟨_, by split <;> omega, abs_nat h1 h2⟩
  rw [e]
  by_cases h : nI d < nI wid
  · rw [if_pos h]
    have hdw : d < wid := by
      have := i_lt.mp h
      rw [nI_toInt (by omega), nI_toInt (by omega)] at this
      omega
    have b1 : pw * fad * aer ≤ 60000 := by
      have x1 : pw * fad ≤ 1000 := Nat.mul_le_mul h7 h8
      exact Nat.le_trans (Nat.mul_le_mul x1 h9) (by omega)
    have b2 : pw * fad * aer / (10 * fa) ≤ 60000 := Nat.le_trans (Nat.div_le_self _ _) b1
    have b3 : pw * fad * aer / (10 * fa) * (wid - d) ≤ 4800000 := Nat.le_trans (Nat.mul_le_mul b2 (show wid - d ≤ 80 by omega)) (by omega)
    have b4 : pw * fad * aer / (10 * fa) * (wid - d) / wid ≤ 4800000 := Nat.le_trans (Nat.div_le_self _ _) b3
    have b5 : pw * fad * aer / (10 * fa) * (wid - d) / wid * (1 + cr) ≤ 48000000 := Nat.le_trans (Nat.mul_le_mul b4 (show 1 + cr ≤ 10 by omega)) (by omega)
    refine ⟨pw * fad * aer / (10 * fa) * (wid - d) / wid * (1 + cr) / 10, by omega, ?_⟩
    rw [pk_mul, pk_mul, show (10 * nI fa : Int32) = nI (10 * fa) from pk_mul 10 fa, pk_div (by omega) (by omega) (by omega), pk_sub (by omega), pk_mul, pk_div (by omega) h4 (by omega), show (1 + nI cr : Int32) = nI (1 + cr) from nI_add 1 cr, pk_mul]
    exact pk_div (d := 10) (by omega) (by omega) (by omega)
  · rw [if_neg h]
    exact ⟨0, by omega, rfl⟩
theorem rc_eq {M N : St} {j i t d cr a k H : Nat} (hk : stOk M N k) (hs : seOk M N j i t d cr a) (hH : H < 1000000) : strF M j k (nI H) = rcR N i (nI H) (nI t) (nI d) (nI cr) k ∧ ∃ s, s < 2 ^ 28 ∧ strF M j k (nI H) = nI s := by
  obtain ⟨fr, pw, fa, fm, ho, ph, ⟨b1, b2, b3, b4, b5, b6, b7⟩, ⟨m0, m1, m2, m3, m4, m5⟩, ⟨n0, n1, n2, n3, n4, n5⟩⟩ := hk
  obtain ⟨⟨c1, c2, c3, c4, c5⟩, s12, s13, s10, s11, sN⟩ := hs
  obtain ⟨f1, f, f2, f3⟩ := fad_eq (P := ph) (H := H) b7 hH
  have ht : 100000 / (t + d) < 2 ^ 30 := Nat.lt_of_le_of_lt (Nat.div_le_self _ _) (by omega)
  have e1 : strF M j k (nI H) = rcN (nI fr) (nI pw) (nI fa) (nI f) (nI a) (nI (100000 / (t + d))) (nI (80 - t / 3)) (nI cr) := by
    unfold strF
    rw [m0, m1, m2, m5, s12, s13, s10, s11, f1, f3]
    exact str_eq (by omega) ht (by omega) (by omega) (by omega) b4
  have e2 : rcR N i (nI H) (nI t) (nI d) (nI cr) k = rcN (nI fr) (nI pw) (nI fa) (nI f) (nI a) (nI (100000 / (t + d))) (nI (80 - t / 3)) (nI cr) := by
    unfold rcR fadR
    rw [n0, n1, n2, n5, sN, tun_nat c1 c2 c3, wid_nat c2, f3]
  refine ⟨e1.trans e2.symm, ?_⟩
  rw [e1]
  exact rcN_nat (by omega) ht (by omega) (by omega) (by omega) b4 b2 f2 c5 c4
theorem on_eq {M N : St} {k H ns : Nat} (hk : stOk M N k) (hH : H < 1000000) (hn : ns ≤ 12) (hkn : k < ns) : bitR (onR N (nI H) ns) k = airN (M 0 k 3) (M 0 k 4) (nI H) := by
  obtain ⟨fr, pw, fa, fm, ho, ph, ⟨b1, b2, b3, b4, b5, b6, b7⟩, ⟨m0, m1, m2, m3, m4, m5⟩, ⟨n0, n1, n2, n3, n4, n5⟩⟩ := hk
  rw [on_bit (by omega) ns (by omega), n3, n4, m3, m4]
  unfold airN
  rw [air_eq b5 hH]
  by_cases h : nI ho ≤ rmd (nI H + 24 - nI fm) 24
  · rw [if_neg (fun z => z.2 h), if_pos h]
  · rw [if_pos ⟨hkn, h⟩, if_neg h]
theorem off_eq {M N : St} {j i t d cr a k H ns : Nat} (hk : stOk M N k) (hs : seOk M N j i t d cr a) (hH : H < 1000000) (hn : ns ≤ 12) (hkn : k < ns) : offF M j (nI H) k = offR N i (nI H) (nI t) (nI d) (nI cr) (onR N (nI H) ns) k ∧ 0 ≤ offF M j (nI H) k := by
  obtain ⟨r1, s, r2, r3⟩ := rc_eq hk hs hH
  unfold offF offR
  rw [on_eq hk hH hn hkn]
  by_cases h : airN (M 0 k 3) (M 0 k 4) (nI H) = 0
  · rw [if_pos h, if_pos h]
    exact ⟨rfl, by decide⟩
  · rw [if_neg h, if_neg h, r3]
    exact ⟨r3.symm.trans r1, nI_pos' (by omega)⟩
/-- the verdicts are one -/
theorem hear_eq {M N : St} {j i t d cr a H ns : Nat} (hk : ∀ k, k < ns → stOk M N k) (hs : seOk M N j i t d cr a) (hH : H < 1000000) (hn : ns ≤ 12) : verQ (heaF M j (nI H) ns) = heR N i (nI H) (nI t) (nI d) (nI cr) (onR N (nI H) ns) ns := by
  unfold heaF heR
  rw [ve_h (fun k hkn => (off_eq (hk k hkn) hs hH hn hkn).2), fo_c ns (fun k hkn => (off_eq (hk k hkn) hs hH hn hkn).1)]
