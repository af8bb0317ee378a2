/-! club c of the class against state c of the reference -/
/-- a line's cells on both sides -/
def liOk (M N : St) (c i ns L : Nat) : Prop := ∀ k, k < L → (∀ v, v < 4 → M 16 (8 * c + i) (k * 4 + v) = N 14 c (4 * (40 * i + k) + v)) ∧ (∃ s, s < ns ∧ M 16 (8 * c + i) (k * 4 + 1) = nI s) ∧ (M 16 (8 * c + i) (k * 4 + 3) = 0 ∨ M 16 (8 * c + i) (k * 4 + 3) = 1)
/-- a member on both sides -/
def meOk (M N : St) (c i ns : Nat) : Prop := ∃ t d cr a L : Nat, seOk M N (8 * c + i) i t d cr a ∧ (M 8 (8 * c + i) 0 = nI t ∧ N 4 0 i = nI t ∧ M 9 (8 * c + i) 0 = nI d ∧ N 5 0 i = nI d ∧ N 12 c i = nI cr ∧ M 14 (8 * c + i) 0 = N 7 0 i ∧ (N 7 0 i = 0 ∨ N 7 0 i = 1)) ∧ (L ≤ 40 ∧ M 15 (8 * c + i) 0 = nI L ∧ N 13 c i = nI L) ∧ liOk M N c i ns L
theorem nI_cl {n : Nat} {x : Int32} (h : x = nI n) (hn : n < 2 ^ 31) : x.toNatClampNeg = n := by rw [h, nI_clamp hn]
theorem meOk_sz {M N : St} {c i ns : Nat} (h : meOk M N c i ns) : M 15 (8 * c + i) 0 = nI (szN M (8 * c + i)) ∧ szN M (8 * c + i) ≤ 40 ∧ N 13 c i = nI (szN M (8 * c + i)) ∧ szR N c i = szN M (8 * c + i) := by
  obtain ⟨t, d, cr, a, L, -, -, ⟨h1, h2, h3⟩, -⟩ := h
  have e : szN M (8 * c + i) = L := nI_cl h2 (by omega)
  have e2 : szR N c i = L := nI_cl h3 (by omega)
  rw [e, e2]
  exact ⟨h2, h1, h3, rfl⟩
/-- a line of a station in a day, on both sides -/
theorem in_eq {M N : St} {c i ns L : Nat} (h : liOk M N c i ns L) (hh : M 3 c 0 = N 8 c 0) (st : Int32) : hasP M (8 * c + i) st (M 3 c 0 / 24) L ↔ inR N c i st L := by
  unfold hasP inR
  constructor
  · rintro ⟨k, hk, h1, h2⟩
    have e := (h k hk).1
    exact ⟨k, hk, by rw [← e 1 (by omega)]; exact h1, by rw [← hh, ← h2]; exact congrArg (· / 24) (e 0 (by omega)).symm⟩
  · rintro ⟨k, hk, h1, h2⟩
    have e := (h k hk).1
    exact ⟨k, hk, by rw [e 1 (by omega)]; exact h1, by rw [hh, ← h2]; exact congrArg (· / 24) (e 0 (by omega))⟩
theorem card_eq {M N : St} {c i ns L : Nat} (h : liOk M N c i ns L) (st : Int32) : (∃ k, k < L ∧ M 16 (8 * c + i) (k * 4 + 1) = st ∧ M 16 (8 * c + i) (k * 4 + 3) = 1) ↔ hcR N c i st L := by
  unfold hcR
  constructor
  · rintro ⟨k, hk, h1, h2⟩
    have e := (h k hk).1
    exact ⟨k, hk, by rw [← e 1 (by omega)]; exact h1, by rw [← e 3 (by omega)]; exact h2⟩
  · rintro ⟨k, hk, h1, h2⟩
    have e := (h k hk).1
    exact ⟨k, hk, by rw [e 1 (by omega)]; exact h1, by rw [e 3 (by omega)]; exact h2⟩
