/-! whose strength is written -/
theorem foR_f {f : Nat → Int32} : ∀ n, ((foR f n).1 = -1 ∧ (foR f n).2.1 = 0) ∨ ∃ k, k < n ∧ (foR f n).1 = nI k ∧ (foR f n).2.1 = f k ∧ ¬ f k = 0
  | 0 => Or.inl ⟨rfl, rfl⟩
  | n + 1 => by
    have ih := foR_f (f := f) n
    show ((stR (foR f n) (nI n) (f n)).1 = -1 ∧ (stR (foR f n) (nI n) (f n)).2.1 = 0) ∨ ∃ k, k < n + 1 ∧ (stR (foR f n) (nI n) (f n)).1 = nI k ∧ (stR (foR f n) (nI n) (f n)).2.1 = f k ∧ ¬ f k = 0
    have up : ((foR f n).1 = -1 ∧ (foR f n).2.1 = 0) ∨ ∃ k, k < n + 1 ∧ (foR f n).1 = nI k ∧ (foR f n).2.1 = f k ∧ ¬ f k = 0 := ih.imp id (fun ⟨k, h1, h2⟩ => ⟨k, by omega, h2⟩)
    unfold stR
    by_cases h0 : f n = 0
    · rw [if_pos h0]; exact up
    · rw [if_neg h0]
      by_cases h1 : f n ≤ (foR f n).2.1
      · rw [if_pos h1]; exact up
      · rw [if_neg h1]; exact Or.inr ⟨n, by omega, rfl, rfl, h0⟩
theorem ver_best {q : rQ} (h : ¬ veR q < 0) : veR q = q.1 ∧ ¬ q.2.1 < 5 := by
  unfold veR at h ⊢
  by_cases h1 : q.2.1 < 5
  · rw [if_pos h1] at h
    exfalso
    apply h
    split <;> decide
  · rw [if_neg h1] at h ⊢
    by_cases h2 : q.2.1 < 2 * q.2.2.1
    · rw [if_pos h2] at h
      exfalso
      apply h
      split <;> decide
    · rw [if_neg h2]
      exact ⟨rfl, h1⟩
/-- the strength of the one that is heard -/
theorem hear_str {M N : St} {j i t d cr a H ns k : Nat} (hk : ∀ k, k < ns → stOk M N k) (hs : seOk M N j i t d cr a) (hH : H < 1000000) (hn : ns ≤ 12) (hk31 : k < 2 ^ 31) (hv : heR N i (nI H) (nI t) (nI d) (nI cr) (onR N (nI H) ns) ns = nI k) : k < ns ∧ (heaF M j (nI H) ns).2.2.1 = rcR N i (nI H) (nI t) (nI d) (nI cr) k := by
  have hv0 : ¬ heR N i (nI H) (nI t) (nI d) (nI cr) (onR N (nI H) ns) ns < 0 := by
    rw [hv]
    exact nI_pos hk31
  unfold heR at hv hv0
  obtain ⟨e1, e2⟩ := ver_best hv0
  rw [e1] at hv
  unfold heaF
  rw [fo_h ns (fun u hu => (off_eq (hk u hu) hs hH hn hu).2), fo_c ns (fun u hu => (off_eq (hk u hu) hs hH hn hu).1)]
  show k < ns ∧ (foR (offR N i (nI H) (nI t) (nI d) (nI cr) (onR N (nI H) ns)) ns).2.1 = _
  rcases foR_f (f := offR N i (nI H) (nI t) (nI d) (nI cr) (onR N (nI H) ns)) ns with ⟨h1, h2⟩ | ⟨u, h1, h2, h3, h4⟩
  · exfalso
    apply e2
    rw [h2]
    decide
  · have hu : u = k := nI_inj (by omega) hk31 (h2.symm.trans hv)
    subst hu
    refine ⟨h1, ?_⟩
    rw [h3]
    unfold offR at h4 ⊢
    by_cases hb : bitR (onR N (nI H) ns) u = 0
    · rw [if_pos hb] at h4
      exact absurd rfl h4
    · rw [if_neg hb]
