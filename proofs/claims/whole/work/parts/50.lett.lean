/-! the letters on both sides -/
def leOk (M N : St) (c nm q : Nat) : Prop := (q ≤ 30 ∧ M 15 (16 + c) 0 = nI q ∧ N 9 c 0 = nI q) ∧ (∀ k, k < q → ∃ m l : Nat, (m < nm ∧ l < szN M (8 * c + m)) ∧ M 16 (16 + c) (k * 3 + 0) = nI m ∧ M 16 (16 + c) (k * 3 + 1) = nI l ∧ N 15 c (2 * k) = nI (40 * m + l) ∧ M 16 (16 + c) (k * 3 + 2) = N 15 c (2 * k + 1) ∧ M 16 (8 * c + m) (l * 4 + 3) = 0) ∧ (∀ k1 k2, k1 < k2 → k2 < q → ¬ N 15 c (2 * k1) = N 15 c (2 * k2))
theorem leOk_T {M N : St} {c ns nm H q : Nat} (h : clOk M N c ns nm H) (hl : leOk M N c nm q) : okT M c nm ∧ okY N c ∧ szN M (16 + c) = q ∧ ltR N c = q := by
  obtain ⟨⟨h1, h2, h3⟩, hk, -⟩ := hl
  have e1 : szN M (16 + c) = q := nI_cl h2 (by omega)
  have e2 : ltR N c = q := nI_cl h3 (by omega)
  refine ⟨⟨by rw [e1]; exact h2, by rw [e1]; exact h1, fun k hk' => ?_⟩, ⟨by rw [e2]; exact h3, by rw [e2]; exact h1, fun k hk' => ?_⟩, e1, e2⟩
  · rw [e1] at hk'
    obtain ⟨m, l, ⟨b1, b2⟩, c1, c2, c3, c4, c5⟩ := hk k hk'
    have hs := (meOk_sz (h.2.2.1 m b1)).2.1
    have hn := h.1.2
    have f1 : lmN M c k = m := nI_cl c1 (by omega)
    have f2 : llN M c k = l := nI_cl c2 (by omega)
    rw [f1, f2]
    exact ⟨c1, b1, c2, by omega⟩
  · rw [e2] at hk'
    obtain ⟨m, l, ⟨b1, b2⟩, c1, c2, c3, c4, c5⟩ := hk k hk'
    have hs := (meOk_sz (h.2.2.1 m b1)).2.1
    have hn := h.1.2
    have f1 : lnR N c k = 40 * m + l := nI_cl c3 (by omega)
    rw [f1]
    exact ⟨c3, by omega⟩
