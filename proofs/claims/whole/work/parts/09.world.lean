/-! the worlds: the cells of the class (wC) and of the reference (wR), out of tables of numbers M, N by (kind of number, which, place) -/
def wm (AD : Nat → Nat) (ct : Nat → va_E) (n : Nat) : va_W := (List.range n).map (fun k => (AD k, ct k))
theorem wm_get {AD : Nat → Nat} {ct : Nat → va_E} {n k : Nat} (h : k < n) : (wm AD ct n)[k]? = some (AD k, ct k) := by
  simp [wm, h]
theorem wm_get2 {AD : Nat → Nat} {ct : Nat → va_E} {n k : Nat} {e : va_E} (h : k < n) (he : ct k = e) : (wm AD ct n)[k]? = some (AD k, e) := by
  rw [wm_get h, he]
theorem wm_set {AD : Nat → Nat} {ct ct' : Nat → va_E} {n k : Nat} (h : ∀ j, j ≠ k → ct' j = ct j) : (wm AD ct n).set k (AD k, ct' k) = wm AD ct' n := by
  apply List.ext_getElem?
  intro i
  rw [List.getElem?_set]
  by_cases hi : k = i
  · subst hi
    by_cases hl : k < n
    · simp [wm, hl]
    · simp [wm, hl]
  · simp only [if_neg hi]
    by_cases hl : i < n
    · rw [wm_get hl, wm_get hl, h i (fun q => hi q.symm)]
    · simp [wm, hl]
theorem mu_s {M : St} {f i j : Nat} {v : Int32} : mu M f i j v f i j = v := by simp [mu, upd]
theorem mu_r {M : St} {f i j : Nat} {v : Int32} : mu M f i j v f i = upd (M f i) j v := by simp [mu]
theorem mu_o {M : St} {f g i j : Nat} {v : Int32} (h : g ≠ f) : mu M f i j v g = M g := by simp [mu, h]
theorem mu_i {M : St} {f i j a : Nat} {v : Int32} (h : a ≠ i) : mu M f i j v f a = M f a := by simp [mu, h]
theorem mu_j {M : St} {f i j b : Nat} {v : Int32} (h : b ≠ j) : mu M f i j v f i b = M f i b := by simp [mu, upd, h]
theorem mu_ne {M : St} {f g i j a : Nat} {v : Int32} (h : ¬ (g = f ∧ a = i)) : mu M f i j v g a = M g a := by
  by_cases hg : g = f
  · subst hg
    exact mu_i (fun q => h ⟨rfl, q⟩)
  · rw [mu_o hg]
/-- the class's cells. 0 the club's outer object; 1+c its two Club; 3+c their arrays of stations, 5+c of members; 7+c what is heard; 9+j sets (j = 8c+m; 16: the probe); 26+j members; 42+t tables (t = 8c+m: a log; 16+c: the letters); 60+t their numbers; 78+i stations -/
def ctC (Z : gZ) (AD : Nat → Nat) (M : St) (k : Nat) : va_E :=
  if k < 1 then .inr (6, [.ref (AD 1), .ref (AD 2), .ref (AD 25)])
  else if k < 3 then .inr (0, [.ref (AD (k + 2)), .ref (AD (k + 4)), .ref (AD (57 + k)), .ref (AD (k + 6)), .int (M 1 (k - 1) 0), .int (M 2 (k - 1) 0), .int (M 3 (k - 1) 0)])
  else if k < 5 then .inl (Z.2.2.2, 12, .inr (.inr (.inr (.inr (fun i => if M 17 (k - 3) i = 0 then none else some (AD (78 + i)))))))
  else if k < 7 then .inl (Z.2.2.1, 8, .inr (.inr (.inr (.inr (fun i => some (AD (26 + (8 * (k - 5) + i))))))))
  else if k < 9 then .inr (2, [.int (M 4 (k - 7) 0), .int (M 5 (k - 7) 0), .int (M 6 (k - 7) 0), .int (M 7 (k - 7) 0)])
  else if k < 26 then .inr (1, [.int (M 8 (k - 9) 0), .int (M 9 (k - 9) 0), .int (M 10 (k - 9) 0), .int (M 11 (k - 9) 0), .int (M 12 (k - 9) 0), .int (M 13 (k - 9) 0)])
  else if k < 42 then .inr (3, [.ref (AD (k - 17)), .ref (AD (k + 16)), .int (M 14 (k - 26) 0)])
  else if k < 60 then .inr (5, [.int (if k < 58 then 4 else 3), .ref (AD (k + 18)), .int (M 15 (k - 42) 0)])
  else if k < 78 then .inl (Z.2.1, (if k < 76 then 160 else 90), .inl (M 16 (k - 60)))
  else .inr (4, [.int (M 0 (k - 78) 0), .int (M 0 (k - 78) 1), .int (M 0 (k - 78) 2), .int (M 0 (k - 78) 3), .int (M 0 (k - 78) 4), .int (M 0 (k - 78) 5)])
/-- in which cell a number lies -/
def owC (f i : Nat) : Nat := if f = 0 then 78 + i else if f < 4 then 1 + i else if f < 8 then 7 + i else if f < 14 then 9 + i else if f = 14 then 26 + i else if f = 15 then 42 + i else if f = 16 then 60 + i else 3 + i
abbrev wC (Z : gZ) (AD : Nat → Nat) (M : St) (n : Nat) : va_W := wm AD (ctC Z AD M) n
theorem ctC_ext {Z : gZ} {AD : Nat → Nat} {M M' : St} {k : Nat} (h : ∀ f i, owC f i = k → M' f i = M f i) : ctC Z AD M' k = ctC Z AD M k := by
  unfold ctC
  by_cases h0 : k < 1
  · rw [if_pos h0, if_pos h0]
  rw [if_neg h0, if_neg h0]
  by_cases h1 : k < 3
  · rw [if_pos h1, if_pos h1, h 1 (k - 1) (show 1 + (k - 1) = k by omega), h 2 (k - 1) (show 1 + (k - 1) = k by omega), h 3 (k - 1) (show 1 + (k - 1) = k by omega)]
  rw [if_neg h1, if_neg h1]
  by_cases h2 : k < 5
  · rw [if_pos h2, if_pos h2, h 17 (k - 3) (show 3 + (k - 3) = k by omega)]
  rw [if_neg h2, if_neg h2]
  by_cases h3 : k < 7
  · rw [if_pos h3, if_pos h3]
  rw [if_neg h3, if_neg h3]
  by_cases h4 : k < 9
  · rw [if_pos h4, if_pos h4, h 4 (k - 7) (show 7 + (k - 7) = k by omega), h 5 (k - 7) (show 7 + (k - 7) = k by omega), h 6 (k - 7) (show 7 + (k - 7) = k by omega), h 7 (k - 7) (show 7 + (k - 7) = k by omega)]
  rw [if_neg h4, if_neg h4]
  by_cases h5 : k < 26
  · rw [if_pos h5, if_pos h5, h 8 (k - 9) (show 9 + (k - 9) = k by omega), h 9 (k - 9) (show 9 + (k - 9) = k by omega), h 10 (k - 9) (show 9 + (k - 9) = k by omega), h 11 (k - 9) (show 9 + (k - 9) = k by omega), h 12 (k - 9) (show 9 + (k - 9) = k by omega), h 13 (k - 9) (show 9 + (k - 9) = k by omega)]
  rw [if_neg h5, if_neg h5]
  by_cases h6 : k < 42
  · rw [if_pos h6, if_pos h6, h 14 (k - 26) (show 26 + (k - 26) = k by omega)]
  rw [if_neg h6, if_neg h6]
  by_cases h7 : k < 60
  · rw [if_pos h7, if_pos h7, h 15 (k - 42) (show 42 + (k - 42) = k by omega)]
  rw [if_neg h7, if_neg h7]
  by_cases h8 : k < 78
  · rw [if_pos h8, if_pos h8, h 16 (k - 60) (show 60 + (k - 60) = k by omega)]
  rw [if_neg h8, if_neg h8, h 0 (k - 78) (show 78 + (k - 78) = k by omega)]
theorem wC_set {Z : gZ} {AD : Nat → Nat} {M : St} {n : Nat} (f i j : Nat) (v : Int32) : (wC Z AD M n).set (owC f i) (AD (owC f i), ctC Z AD (mu M f i j v) (owC f i)) = wC Z AD (mu M f i j v) n :=
  wm_set (fun b hb => ctC_ext (fun g a hg => mu_ne (fun ⟨q1, q2⟩ => hb (by rw [← hg, q1, q2]))))
theorem ctC_root {Z : gZ} {AD : Nat → Nat} {M : St} : ctC Z AD M (0) = .inr (6, [.ref (AD 1), .ref (AD 2), .ref (AD 25)]) := rfl
theorem gC_root {Z : gZ} {AD : Nat → Nat} {M : St} {n : Nat} (hn : 78 ≤ n) : (wC Z AD M n)[0]? = some (AD (0), .inr (6, [.ref (AD 1), .ref (AD 2), .ref (AD 25)])) := wm_get2 (by omega) (ctC_root)
theorem ctC_club {Z : gZ} {AD : Nat → Nat} {M : St} {c : Nat} (hc : c < 2) : ctC Z AD M (1 + c) = .inr (0, [.ref (AD (3 + c)), .ref (AD (5 + c)), .ref (AD (42 + (16 + c))), .ref (AD (7 + c)), .int (M 1 c 0), .int (M 2 c 0), .int (M 3 c 0)]) := by
  match c, hc with
  | 0, _ => rfl
  | 1, _ => rfl
  | q + 2, h => exact absurd h (by omega)
theorem gC_club {Z : gZ} {AD : Nat → Nat} {M : St} {n : Nat} {c : Nat} (hc : c < 2) (hn : 78 ≤ n) : (wC Z AD M n)[1 + c]? = some (AD (1 + c), .inr (0, [.ref (AD (3 + c)), .ref (AD (5 + c)), .ref (AD (42 + (16 + c))), .ref (AD (7 + c)), .int (M 1 c 0), .int (M 2 c 0), .int (M 3 c 0)])) := wm_get2 (by omega) (ctC_club hc)
theorem pC_1 {Z : gZ} {AD : Nat → Nat} {M : St} {n : Nat} {c : Nat} {x : Int32} (hc : c < 2) : (wC Z AD M n).set (1 + c) (AD (1 + c), .inr (0, [.ref (AD (3 + c)), .ref (AD (5 + c)), .ref (AD (42 + (16 + c))), .ref (AD (7 + c)), .int x, .int (M 2 c 0), .int (M 3 c 0)])) = wC Z AD (mu M 1 c 0 x) n := by
  have h : (wC Z AD M n).set (1 + c) (AD (1 + c), ctC Z AD (mu M 1 c 0 x) (1 + c)) = wC Z AD (mu M 1 c 0 x) n := wC_set 1 c 0 x
  rw [ctC_club hc, mu_s] at h
  exact h
theorem pC_2 {Z : gZ} {AD : Nat → Nat} {M : St} {n : Nat} {c : Nat} {x : Int32} (hc : c < 2) : (wC Z AD M n).set (1 + c) (AD (1 + c), .inr (0, [.ref (AD (3 + c)), .ref (AD (5 + c)), .ref (AD (42 + (16 + c))), .ref (AD (7 + c)), .int (M 1 c 0), .int x, .int (M 3 c 0)])) = wC Z AD (mu M 2 c 0 x) n := by
  have h : (wC Z AD M n).set (1 + c) (AD (1 + c), ctC Z AD (mu M 2 c 0 x) (1 + c)) = wC Z AD (mu M 2 c 0 x) n := wC_set 2 c 0 x
  rw [ctC_club hc, mu_s] at h
  exact h
theorem pC_3 {Z : gZ} {AD : Nat → Nat} {M : St} {n : Nat} {c : Nat} {x : Int32} (hc : c < 2) : (wC Z AD M n).set (1 + c) (AD (1 + c), .inr (0, [.ref (AD (3 + c)), .ref (AD (5 + c)), .ref (AD (42 + (16 + c))), .ref (AD (7 + c)), .int (M 1 c 0), .int (M 2 c 0), .int x])) = wC Z AD (mu M 3 c 0 x) n := by
  have h : (wC Z AD M n).set (1 + c) (AD (1 + c), ctC Z AD (mu M 3 c 0 x) (1 + c)) = wC Z AD (mu M 3 c 0 x) n := wC_set 3 c 0 x
  rw [ctC_club hc, mu_s] at h
  exact h
theorem ctC_sarr {Z : gZ} {AD : Nat → Nat} {M : St} {c : Nat} (hc : c < 2) : ctC Z AD M (3 + c) = .inl (Z.2.2.2, 12, .inr (.inr (.inr (.inr (fun i => if M 17 c i = 0 then none else some (AD (78 + i))))))) := by
  match c, hc with
  | 0, _ => rfl
  | 1, _ => rfl
  | q + 2, h => exact absurd h (by omega)
theorem gC_sarr {Z : gZ} {AD : Nat → Nat} {M : St} {n : Nat} {c : Nat} (hc : c < 2) (hn : 78 ≤ n) : (wC Z AD M n)[3 + c]? = some (AD (3 + c), .inl (Z.2.2.2, 12, .inr (.inr (.inr (.inr (fun i => if M 17 c i = 0 then none else some (AD (78 + i)))))))) := wm_get2 (by omega) (ctC_sarr hc)
theorem ctC_marr {Z : gZ} {AD : Nat → Nat} {M : St} {c : Nat} (hc : c < 2) : ctC Z AD M (5 + c) = .inl (Z.2.2.1, 8, .inr (.inr (.inr (.inr (fun i => some (AD (26 + (8 * c + i)))))))) := by
  match c, hc with
  | 0, _ => rfl
  | 1, _ => rfl
  | q + 2, h => exact absurd h (by omega)
theorem gC_marr {Z : gZ} {AD : Nat → Nat} {M : St} {n : Nat} {c : Nat} (hc : c < 2) (hn : 78 ≤ n) : (wC Z AD M n)[5 + c]? = some (AD (5 + c), .inl (Z.2.2.1, 8, .inr (.inr (.inr (.inr (fun i => some (AD (26 + (8 * c + i))))))))) := wm_get2 (by omega) (ctC_marr hc)
theorem ctC_hear {Z : gZ} {AD : Nat → Nat} {M : St} {c : Nat} (hc : c < 2) : ctC Z AD M (7 + c) = .inr (2, [.int (M 4 c 0), .int (M 5 c 0), .int (M 6 c 0), .int (M 7 c 0)]) := by
  match c, hc with
  | 0, _ => rfl
  | 1, _ => rfl
  | q + 2, h => exact absurd h (by omega)
theorem gC_hear {Z : gZ} {AD : Nat → Nat} {M : St} {n : Nat} {c : Nat} (hc : c < 2) (hn : 78 ≤ n) : (wC Z AD M n)[7 + c]? = some (AD (7 + c), .inr (2, [.int (M 4 c 0), .int (M 5 c 0), .int (M 6 c 0), .int (M 7 c 0)])) := wm_get2 (by omega) (ctC_hear hc)
theorem pC_4 {Z : gZ} {AD : Nat → Nat} {M : St} {n : Nat} {c : Nat} {x : Int32} (hc : c < 2) : (wC Z AD M n).set (7 + c) (AD (7 + c), .inr (2, [.int x, .int (M 5 c 0), .int (M 6 c 0), .int (M 7 c 0)])) = wC Z AD (mu M 4 c 0 x) n := by
  have h : (wC Z AD M n).set (7 + c) (AD (7 + c), ctC Z AD (mu M 4 c 0 x) (7 + c)) = wC Z AD (mu M 4 c 0 x) n := wC_set 4 c 0 x
  rw [ctC_hear hc, mu_s] at h
  exact h
theorem pC_5 {Z : gZ} {AD : Nat → Nat} {M : St} {n : Nat} {c : Nat} {x : Int32} (hc : c < 2) : (wC Z AD M n).set (7 + c) (AD (7 + c), .inr (2, [.int (M 4 c 0), .int x, .int (M 6 c 0), .int (M 7 c 0)])) = wC Z AD (mu M 5 c 0 x) n := by
  have h : (wC Z AD M n).set (7 + c) (AD (7 + c), ctC Z AD (mu M 5 c 0 x) (7 + c)) = wC Z AD (mu M 5 c 0 x) n := wC_set 5 c 0 x
  rw [ctC_hear hc, mu_s] at h
  exact h
theorem pC_6 {Z : gZ} {AD : Nat → Nat} {M : St} {n : Nat} {c : Nat} {x : Int32} (hc : c < 2) : (wC Z AD M n).set (7 + c) (AD (7 + c), .inr (2, [.int (M 4 c 0), .int (M 5 c 0), .int x, .int (M 7 c 0)])) = wC Z AD (mu M 6 c 0 x) n := by
  have h : (wC Z AD M n).set (7 + c) (AD (7 + c), ctC Z AD (mu M 6 c 0 x) (7 + c)) = wC Z AD (mu M 6 c 0 x) n := wC_set 6 c 0 x
  rw [ctC_hear hc, mu_s] at h
  exact h
theorem pC_7 {Z : gZ} {AD : Nat → Nat} {M : St} {n : Nat} {c : Nat} {x : Int32} (hc : c < 2) : (wC Z AD M n).set (7 + c) (AD (7 + c), .inr (2, [.int (M 4 c 0), .int (M 5 c 0), .int (M 6 c 0), .int x])) = wC Z AD (mu M 7 c 0 x) n := by
  have h : (wC Z AD M n).set (7 + c) (AD (7 + c), ctC Z AD (mu M 7 c 0 x) (7 + c)) = wC Z AD (mu M 7 c 0 x) n := wC_set 7 c 0 x
  rw [ctC_hear hc, mu_s] at h
  exact h
theorem ctC_cset {Z : gZ} {AD : Nat → Nat} {M : St} {j : Nat} (hj : j < 17) : ctC Z AD M (9 + j) = .inr (1, [.int (M 8 j 0), .int (M 9 j 0), .int (M 10 j 0), .int (M 11 j 0), .int (M 12 j 0), .int (M 13 j 0)]) := by
  match j, hj with
  | 0, _ => rfl
  | 1, _ => rfl
  | 2, _ => rfl
  | 3, _ => rfl
  | 4, _ => rfl
  | 5, _ => rfl
  | 6, _ => rfl
  | 7, _ => rfl
  | 8, _ => rfl
  | 9, _ => rfl
  | 10, _ => rfl
  | 11, _ => rfl
  | 12, _ => rfl
  | 13, _ => rfl
  | 14, _ => rfl
  | 15, _ => rfl
  | 16, _ => rfl
  | q + 17, h => exact absurd h (by omega)
theorem gC_cset {Z : gZ} {AD : Nat → Nat} {M : St} {n : Nat} {j : Nat} (hj : j < 17) (hn : 78 ≤ n) : (wC Z AD M n)[9 + j]? = some (AD (9 + j), .inr (1, [.int (M 8 j 0), .int (M 9 j 0), .int (M 10 j 0), .int (M 11 j 0), .int (M 12 j 0), .int (M 13 j 0)])) := wm_get2 (by omega) (ctC_cset hj)
theorem pC_8 {Z : gZ} {AD : Nat → Nat} {M : St} {n : Nat} {j : Nat} {x : Int32} (hj : j < 17) : (wC Z AD M n).set (9 + j) (AD (9 + j), .inr (1, [.int x, .int (M 9 j 0), .int (M 10 j 0), .int (M 11 j 0), .int (M 12 j 0), .int (M 13 j 0)])) = wC Z AD (mu M 8 j 0 x) n := by
  have h : (wC Z AD M n).set (9 + j) (AD (9 + j), ctC Z AD (mu M 8 j 0 x) (9 + j)) = wC Z AD (mu M 8 j 0 x) n := wC_set 8 j 0 x
  rw [ctC_cset hj, mu_s] at h
  exact h
theorem pC_9 {Z : gZ} {AD : Nat → Nat} {M : St} {n : Nat} {j : Nat} {x : Int32} (hj : j < 17) : (wC Z AD M n).set (9 + j) (AD (9 + j), .inr (1, [.int (M 8 j 0), .int x, .int (M 10 j 0), .int (M 11 j 0), .int (M 12 j 0), .int (M 13 j 0)])) = wC Z AD (mu M 9 j 0 x) n := by
  have h : (wC Z AD M n).set (9 + j) (AD (9 + j), ctC Z AD (mu M 9 j 0 x) (9 + j)) = wC Z AD (mu M 9 j 0 x) n := wC_set 9 j 0 x
  rw [ctC_cset hj, mu_s] at h
  exact h
theorem pC_10 {Z : gZ} {AD : Nat → Nat} {M : St} {n : Nat} {j : Nat} {x : Int32} (hj : j < 17) : (wC Z AD M n).set (9 + j) (AD (9 + j), .inr (1, [.int (M 8 j 0), .int (M 9 j 0), .int x, .int (M 11 j 0), .int (M 12 j 0), .int (M 13 j 0)])) = wC Z AD (mu M 10 j 0 x) n := by
  have h : (wC Z AD M n).set (9 + j) (AD (9 + j), ctC Z AD (mu M 10 j 0 x) (9 + j)) = wC Z AD (mu M 10 j 0 x) n := wC_set 10 j 0 x
  rw [ctC_cset hj, mu_s] at h
  exact h
theorem pC_11 {Z : gZ} {AD : Nat → Nat} {M : St} {n : Nat} {j : Nat} {x : Int32} (hj : j < 17) : (wC Z AD M n).set (9 + j) (AD (9 + j), .inr (1, [.int (M 8 j 0), .int (M 9 j 0), .int (M 10 j 0), .int x, .int (M 12 j 0), .int (M 13 j 0)])) = wC Z AD (mu M 11 j 0 x) n := by
  have h : (wC Z AD M n).set (9 + j) (AD (9 + j), ctC Z AD (mu M 11 j 0 x) (9 + j)) = wC Z AD (mu M 11 j 0 x) n := wC_set 11 j 0 x
  rw [ctC_cset hj, mu_s] at h
  exact h
theorem pC_12 {Z : gZ} {AD : Nat → Nat} {M : St} {n : Nat} {j : Nat} {x : Int32} (hj : j < 17) : (wC Z AD M n).set (9 + j) (AD (9 + j), .inr (1, [.int (M 8 j 0), .int (M 9 j 0), .int (M 10 j 0), .int (M 11 j 0), .int x, .int (M 13 j 0)])) = wC Z AD (mu M 12 j 0 x) n := by
  have h : (wC Z AD M n).set (9 + j) (AD (9 + j), ctC Z AD (mu M 12 j 0 x) (9 + j)) = wC Z AD (mu M 12 j 0 x) n := wC_set 12 j 0 x
  rw [ctC_cset hj, mu_s] at h
  exact h
theorem pC_13 {Z : gZ} {AD : Nat → Nat} {M : St} {n : Nat} {j : Nat} {x : Int32} (hj : j < 17) : (wC Z AD M n).set (9 + j) (AD (9 + j), .inr (1, [.int (M 8 j 0), .int (M 9 j 0), .int (M 10 j 0), .int (M 11 j 0), .int (M 12 j 0), .int x])) = wC Z AD (mu M 13 j 0 x) n := by
  have h : (wC Z AD M n).set (9 + j) (AD (9 + j), ctC Z AD (mu M 13 j 0 x) (9 + j)) = wC Z AD (mu M 13 j 0 x) n := wC_set 13 j 0 x
  rw [ctC_cset hj, mu_s] at h
  exact h
theorem ctC_memb {Z : gZ} {AD : Nat → Nat} {M : St} {j : Nat} (hj : j < 16) : ctC Z AD M (26 + j) = .inr (3, [.ref (AD (9 + j)), .ref (AD (42 + j)), .int (M 14 j 0)]) := by
  match j, hj with
  | 0, _ => rfl
  | 1, _ => rfl
  | 2, _ => rfl
  | 3, _ => rfl
  | 4, _ => rfl
  | 5, _ => rfl
  | 6, _ => rfl
  | 7, _ => rfl
  | 8, _ => rfl
  | 9, _ => rfl
  | 10, _ => rfl
  | 11, _ => rfl
  | 12, _ => rfl
  | 13, _ => rfl
  | 14, _ => rfl
  | 15, _ => rfl
  | q + 16, h => exact absurd h (by omega)
theorem gC_memb {Z : gZ} {AD : Nat → Nat} {M : St} {n : Nat} {j : Nat} (hj : j < 16) (hn : 78 ≤ n) : (wC Z AD M n)[26 + j]? = some (AD (26 + j), .inr (3, [.ref (AD (9 + j)), .ref (AD (42 + j)), .int (M 14 j 0)])) := wm_get2 (by omega) (ctC_memb hj)
theorem pC_14 {Z : gZ} {AD : Nat → Nat} {M : St} {n : Nat} {j : Nat} {x : Int32} (hj : j < 16) : (wC Z AD M n).set (26 + j) (AD (26 + j), .inr (3, [.ref (AD (9 + j)), .ref (AD (42 + j)), .int x])) = wC Z AD (mu M 14 j 0 x) n := by
  have h : (wC Z AD M n).set (26 + j) (AD (26 + j), ctC Z AD (mu M 14 j 0 x) (26 + j)) = wC Z AD (mu M 14 j 0 x) n := wC_set 14 j 0 x
  rw [ctC_memb hj, mu_s] at h
  exact h
theorem ctC_tabl {Z : gZ} {AD : Nat → Nat} {M : St} {t : Nat} (ht : t < 18) : ctC Z AD M (42 + t) = .inr (5, [.int (if t < 16 then 4 else 3), .ref (AD (60 + t)), .int (M 15 t 0)]) := by
  match t, ht with
  | 0, _ => rfl
  | 1, _ => rfl
  | 2, _ => rfl
  | 3, _ => rfl
  | 4, _ => rfl
  | 5, _ => rfl
  | 6, _ => rfl
  | 7, _ => rfl
  | 8, _ => rfl
  | 9, _ => rfl
  | 10, _ => rfl
  | 11, _ => rfl
  | 12, _ => rfl
  | 13, _ => rfl
  | 14, _ => rfl
  | 15, _ => rfl
  | 16, _ => rfl
  | 17, _ => rfl
  | q + 18, h => exact absurd h (by omega)
theorem gC_tabl {Z : gZ} {AD : Nat → Nat} {M : St} {n : Nat} {t : Nat} (ht : t < 18) (hn : 78 ≤ n) : (wC Z AD M n)[42 + t]? = some (AD (42 + t), .inr (5, [.int (if t < 16 then 4 else 3), .ref (AD (60 + t)), .int (M 15 t 0)])) := wm_get2 (by omega) (ctC_tabl ht)
theorem pC_15 {Z : gZ} {AD : Nat → Nat} {M : St} {n : Nat} {t : Nat} {x : Int32} (ht : t < 18) : (wC Z AD M n).set (42 + t) (AD (42 + t), .inr (5, [.int (if t < 16 then 4 else 3), .ref (AD (60 + t)), .int x])) = wC Z AD (mu M 15 t 0 x) n := by
  have h : (wC Z AD M n).set (42 + t) (AD (42 + t), ctC Z AD (mu M 15 t 0 x) (42 + t)) = wC Z AD (mu M 15 t 0 x) n := wC_set 15 t 0 x
  rw [ctC_tabl ht, mu_s] at h
  exact h
theorem ctC_cell {Z : gZ} {AD : Nat → Nat} {M : St} {t : Nat} (ht : t < 18) : ctC Z AD M (60 + t) = .inl (Z.2.1, (if t < 16 then 160 else 90), .inl (M 16 t)) := by
  match t, ht with
  | 0, _ => rfl
  | 1, _ => rfl
  | 2, _ => rfl
  | 3, _ => rfl
  | 4, _ => rfl
  | 5, _ => rfl
  | 6, _ => rfl
  | 7, _ => rfl
  | 8, _ => rfl
  | 9, _ => rfl
  | 10, _ => rfl
  | 11, _ => rfl
  | 12, _ => rfl
  | 13, _ => rfl
  | 14, _ => rfl
  | 15, _ => rfl
  | 16, _ => rfl
  | 17, _ => rfl
  | q + 18, h => exact absurd h (by omega)
theorem gC_cell {Z : gZ} {AD : Nat → Nat} {M : St} {n : Nat} {t : Nat} (ht : t < 18) (hn : 78 ≤ n) : (wC Z AD M n)[60 + t]? = some (AD (60 + t), .inl (Z.2.1, (if t < 16 then 160 else 90), .inl (M 16 t))) := wm_get2 (by omega) (ctC_cell ht)
theorem ctC_stat {Z : gZ} {AD : Nat → Nat} {M : St} {i : Nat} : ctC Z AD M (78 + i) = .inr (4, [.int (M 0 i 0), .int (M 0 i 1), .int (M 0 i 2), .int (M 0 i 3), .int (M 0 i 4), .int (M 0 i 5)]) := by
  unfold ctC
  rw [if_neg (by omega), if_neg (by omega), if_neg (by omega), if_neg (by omega), if_neg (by omega), if_neg (by omega), if_neg (by omega), if_neg (by omega), if_neg (by omega), show 78 + i - 78 = i by omega]
theorem gC_stat {Z : gZ} {AD : Nat → Nat} {M : St} {n i : Nat} (hn : 78 + i < n) : (wC Z AD M n)[78 + i]? = some (AD (78 + i), .inr (4, [.int (M 0 i 0), .int (M 0 i 1), .int (M 0 i 2), .int (M 0 i 3), .int (M 0 i 4), .int (M 0 i 5)])) := wm_get2 hn ctC_stat
theorem pC_16 {Z : gZ} {AD : Nat → Nat} {M : St} {n t i : Nat} {x : Int32} (ht : t < 18) : (wC Z AD M n).set (60 + t) (AD (60 + t), .inl (Z.2.1, (if t < 16 then 160 else 90), .inl (upd (M 16 t) i x))) = wC Z AD (mu M 16 t i x) n := by
  have h : (wC Z AD M n).set (60 + t) (AD (60 + t), ctC Z AD (mu M 16 t i x) (60 + t)) = wC Z AD (mu M 16 t i x) n := wC_set 16 t i x
  rw [ctC_cell ht, mu_r] at h
  exact h
theorem pC_17 {Z : gZ} {AD : Nat → Nat} {M : St} {n c i : Nat} {x : Int32} {r : Option Nat} (hc : c < 2) (hr : (if x = 0 then none else some (AD (78 + i))) = r) : (wC Z AD M n).set (3 + c) (AD (3 + c), .inl (Z.2.2.2, 12, .inr (.inr (.inr (.inr (va_up (fun i => if M 17 c i = 0 then none else some (AD (78 + i))) i r)))))) = wC Z AD (mu M 17 c i x) n := by
  have h : (wC Z AD M n).set (3 + c) (AD (3 + c), ctC Z AD (mu M 17 c i x) (3 + c)) = wC Z AD (mu M 17 c i x) n := wC_set 17 c i x
  rw [ctC_sarr hc] at h
  rw [← h]
  congr 9
  funext j
  subst hr
  by_cases hj : j = i
  · subst hj
    simp [va_up, mu_s]
  · simp [va_up, hj, mu_j hj]
/-- the reference's cells. 0 itself; 1 air; 2..5 turns, stand, aerial, ears; 6+c its states; 8+c crystal, 10+c lines, 12+c log, 14+c mail -/
def ctR (Z : gZ) (AD : Nat → Nat) (M : St) (k : Nat) : va_E :=
  if k < 1 then .inr (8, [.int (M 1 0 0), .int (M 2 0 0), .int (M 3 0 0), .ref (AD 1), .ref (AD 2), .ref (AD 3), .ref (AD 4), .ref (AD 5), .ref (AD 6), .ref (AD 7)])
  else if k < 2 then .inl (Z.2.1, 72, .inl (M 0 0))
  else if k < 6 then .inl (Z.2.1, 8, .inl (M (k + 2) 0))
  else if k < 8 then .inr (7, [.int (M 8 (k - 6) 0), .int (M 9 (k - 6) 0), .int (M 10 (k - 6) 0), .int (M 11 (k - 6) 0), .ref (AD (k + 2)), .ref (AD (k + 4)), .ref (AD (k + 6)), .ref (AD (k + 8)), .ref (AD 0)])
  else if k < 10 then .inl (Z.2.1, 8, .inl (M 12 (k - 8)))
  else if k < 12 then .inl (Z.2.1, 8, .inl (M 13 (k - 10)))
  else if k < 14 then .inl (Z.2.1, 1280, .inl (M 14 (k - 12)))
  else .inl (Z.2.1, 60, .inl (M 15 (k - 14)))
def owR (f i : Nat) : Nat := if f = 0 then 1 else if f < 4 then 0 else if f < 8 then f - 2 else if f < 12 then 6 + i else if f = 12 then 8 + i else if f = 13 then 10 + i else if f = 14 then 12 + i else 14 + i
abbrev wR (Z : gZ) (AD : Nat → Nat) (M : St) (n : Nat) : va_W := wm AD (ctR Z AD M) n
theorem ctR_ext {Z : gZ} {AD : Nat → Nat} {M M' : St} {k : Nat} (h : ∀ f i, owR f i = k → M' f i = M f i) : ctR Z AD M' k = ctR Z AD M k := by
  unfold ctR
  by_cases h0 : k < 1
  · have hk : k = 0 := by omega
    subst hk
    rw [if_pos h0, if_pos h0, h 1 0 rfl, h 2 0 rfl, h 3 0 rfl]
  rw [if_neg h0, if_neg h0]
  by_cases h1 : k < 2
  · have hk : k = 1 := by omega
    subst hk
    rw [if_pos h1, if_pos h1, h 0 0 rfl]
  rw [if_neg h1, if_neg h1]
  by_cases h2 : k < 6
  · rw [if_pos h2, if_pos h2, h (k + 2) 0 (by unfold owR; rw [if_neg (by omega), if_neg (by omega), if_pos (by omega)]; omega)]
  rw [if_neg h2, if_neg h2]
  by_cases h3 : k < 8
  · rw [if_pos h3, if_pos h3, h 8 (k - 6) (show 6 + (k - 6) = k by omega), h 9 (k - 6) (show 6 + (k - 6) = k by omega), h 10 (k - 6) (show 6 + (k - 6) = k by omega), h 11 (k - 6) (show 6 + (k - 6) = k by omega)]
  rw [if_neg h3, if_neg h3]
  by_cases h4 : k < 10
  · rw [if_pos h4, if_pos h4, h 12 (k - 8) (show 8 + (k - 8) = k by omega)]
  rw [if_neg h4, if_neg h4]
  by_cases h5 : k < 12
  · rw [if_pos h5, if_pos h5, h 13 (k - 10) (show 10 + (k - 10) = k by omega)]
  rw [if_neg h5, if_neg h5]
  by_cases h6 : k < 14
  · rw [if_pos h6, if_pos h6, h 14 (k - 12) (show 12 + (k - 12) = k by omega)]
  rw [if_neg h6, if_neg h6, h 15 (k - 14) (show 14 + (k - 14) = k by omega)]
theorem wR_set {Z : gZ} {AD : Nat → Nat} {M : St} {n : Nat} (f i j : Nat) (v : Int32) : (wR Z AD M n).set (owR f i) (AD (owR f i), ctR Z AD (mu M f i j v) (owR f i)) = wR Z AD (mu M f i j v) n :=
  wm_set (fun b hb => ctR_ext (fun g a hg => mu_ne (fun ⟨q1, q2⟩ => hb (by rw [← hg, q1, q2]))))
theorem ctR_model {Z : gZ} {AD : Nat → Nat} {M : St} : ctR Z AD M (0) = .inr (8, [.int (M 1 0 0), .int (M 2 0 0), .int (M 3 0 0), .ref (AD 1), .ref (AD 2), .ref (AD 3), .ref (AD 4), .ref (AD 5), .ref (AD 6), .ref (AD 7)]) := rfl
theorem gR_model {Z : gZ} {AD : Nat → Nat} {M : St} {n : Nat} (hn : 16 ≤ n) : (wR Z AD M n)[0]? = some (AD (0), .inr (8, [.int (M 1 0 0), .int (M 2 0 0), .int (M 3 0 0), .ref (AD 1), .ref (AD 2), .ref (AD 3), .ref (AD 4), .ref (AD 5), .ref (AD 6), .ref (AD 7)])) := wm_get2 (by omega) (ctR_model)
theorem pR_1 {Z : gZ} {AD : Nat → Nat} {M : St} {n : Nat} {x : Int32} : (wR Z AD M n).set (0) (AD (0), .inr (8, [.int x, .int (M 2 0 0), .int (M 3 0 0), .ref (AD 1), .ref (AD 2), .ref (AD 3), .ref (AD 4), .ref (AD 5), .ref (AD 6), .ref (AD 7)])) = wR Z AD (mu M 1 0 0 x) n := by
  have h : (wR Z AD M n).set (0) (AD (0), ctR Z AD (mu M 1 0 0 x) (0)) = wR Z AD (mu M 1 0 0 x) n := wR_set 1 0 0 x
  rw [ctR_model, mu_s] at h
  exact h
theorem pR_2 {Z : gZ} {AD : Nat → Nat} {M : St} {n : Nat} {x : Int32} : (wR Z AD M n).set (0) (AD (0), .inr (8, [.int (M 1 0 0), .int x, .int (M 3 0 0), .ref (AD 1), .ref (AD 2), .ref (AD 3), .ref (AD 4), .ref (AD 5), .ref (AD 6), .ref (AD 7)])) = wR Z AD (mu M 2 0 0 x) n := by
  have h : (wR Z AD M n).set (0) (AD (0), ctR Z AD (mu M 2 0 0 x) (0)) = wR Z AD (mu M 2 0 0 x) n := wR_set 2 0 0 x
  rw [ctR_model, mu_s] at h
  exact h
theorem pR_3 {Z : gZ} {AD : Nat → Nat} {M : St} {n : Nat} {x : Int32} : (wR Z AD M n).set (0) (AD (0), .inr (8, [.int (M 1 0 0), .int (M 2 0 0), .int x, .ref (AD 1), .ref (AD 2), .ref (AD 3), .ref (AD 4), .ref (AD 5), .ref (AD 6), .ref (AD 7)])) = wR Z AD (mu M 3 0 0 x) n := by
  have h : (wR Z AD M n).set (0) (AD (0), ctR Z AD (mu M 3 0 0 x) (0)) = wR Z AD (mu M 3 0 0 x) n := wR_set 3 0 0 x
  rw [ctR_model, mu_s] at h
  exact h
theorem ctR_air {Z : gZ} {AD : Nat → Nat} {M : St} : ctR Z AD M (1) = .inl (Z.2.1, 72, .inl (M 0 0)) := rfl
theorem gR_air {Z : gZ} {AD : Nat → Nat} {M : St} {n : Nat} (hn : 16 ≤ n) : (wR Z AD M n)[1]? = some (AD (1), .inl (Z.2.1, 72, .inl (M 0 0))) := wm_get2 (by omega) (ctR_air)
theorem ctR_turns {Z : gZ} {AD : Nat → Nat} {M : St} : ctR Z AD M (2) = .inl (Z.2.1, 8, .inl (M 4 0)) := rfl
theorem gR_turns {Z : gZ} {AD : Nat → Nat} {M : St} {n : Nat} (hn : 16 ≤ n) : (wR Z AD M n)[2]? = some (AD (2), .inl (Z.2.1, 8, .inl (M 4 0))) := wm_get2 (by omega) (ctR_turns)
theorem ctR_stand {Z : gZ} {AD : Nat → Nat} {M : St} : ctR Z AD M (3) = .inl (Z.2.1, 8, .inl (M 5 0)) := rfl
theorem gR_stand {Z : gZ} {AD : Nat → Nat} {M : St} {n : Nat} (hn : 16 ≤ n) : (wR Z AD M n)[3]? = some (AD (3), .inl (Z.2.1, 8, .inl (M 5 0))) := wm_get2 (by omega) (ctR_stand)
theorem ctR_aerial {Z : gZ} {AD : Nat → Nat} {M : St} : ctR Z AD M (4) = .inl (Z.2.1, 8, .inl (M 6 0)) := rfl
theorem gR_aerial {Z : gZ} {AD : Nat → Nat} {M : St} {n : Nat} (hn : 16 ≤ n) : (wR Z AD M n)[4]? = some (AD (4), .inl (Z.2.1, 8, .inl (M 6 0))) := wm_get2 (by omega) (ctR_aerial)
theorem ctR_ears {Z : gZ} {AD : Nat → Nat} {M : St} : ctR Z AD M (5) = .inl (Z.2.1, 8, .inl (M 7 0)) := rfl
theorem gR_ears {Z : gZ} {AD : Nat → Nat} {M : St} {n : Nat} (hn : 16 ≤ n) : (wR Z AD M n)[5]? = some (AD (5), .inl (Z.2.1, 8, .inl (M 7 0))) := wm_get2 (by omega) (ctR_ears)
theorem ctR_state {Z : gZ} {AD : Nat → Nat} {M : St} {c : Nat} (hc : c < 2) : ctR Z AD M (6 + c) = .inr (7, [.int (M 8 c 0), .int (M 9 c 0), .int (M 10 c 0), .int (M 11 c 0), .ref (AD (8 + c)), .ref (AD (10 + c)), .ref (AD (12 + c)), .ref (AD (14 + c)), .ref (AD 0)]) := by
  match c, hc with
  | 0, _ => rfl
  | 1, _ => rfl
  | q + 2, h => exact absurd h (by omega)
theorem gR_state {Z : gZ} {AD : Nat → Nat} {M : St} {n : Nat} {c : Nat} (hc : c < 2) (hn : 16 ≤ n) : (wR Z AD M n)[6 + c]? = some (AD (6 + c), .inr (7, [.int (M 8 c 0), .int (M 9 c 0), .int (M 10 c 0), .int (M 11 c 0), .ref (AD (8 + c)), .ref (AD (10 + c)), .ref (AD (12 + c)), .ref (AD (14 + c)), .ref (AD 0)])) := wm_get2 (by omega) (ctR_state hc)
theorem pR_8 {Z : gZ} {AD : Nat → Nat} {M : St} {n : Nat} {c : Nat} {x : Int32} (hc : c < 2) : (wR Z AD M n).set (6 + c) (AD (6 + c), .inr (7, [.int x, .int (M 9 c 0), .int (M 10 c 0), .int (M 11 c 0), .ref (AD (8 + c)), .ref (AD (10 + c)), .ref (AD (12 + c)), .ref (AD (14 + c)), .ref (AD 0)])) = wR Z AD (mu M 8 c 0 x) n := by
  have h : (wR Z AD M n).set (6 + c) (AD (6 + c), ctR Z AD (mu M 8 c 0 x) (6 + c)) = wR Z AD (mu M 8 c 0 x) n := wR_set 8 c 0 x
  rw [ctR_state hc, mu_s] at h
  exact h
theorem pR_9 {Z : gZ} {AD : Nat → Nat} {M : St} {n : Nat} {c : Nat} {x : Int32} (hc : c < 2) : (wR Z AD M n).set (6 + c) (AD (6 + c), .inr (7, [.int (M 8 c 0), .int x, .int (M 10 c 0), .int (M 11 c 0), .ref (AD (8 + c)), .ref (AD (10 + c)), .ref (AD (12 + c)), .ref (AD (14 + c)), .ref (AD 0)])) = wR Z AD (mu M 9 c 0 x) n := by
  have h : (wR Z AD M n).set (6 + c) (AD (6 + c), ctR Z AD (mu M 9 c 0 x) (6 + c)) = wR Z AD (mu M 9 c 0 x) n := wR_set 9 c 0 x
  rw [ctR_state hc, mu_s] at h
  exact h
theorem pR_10 {Z : gZ} {AD : Nat → Nat} {M : St} {n : Nat} {c : Nat} {x : Int32} (hc : c < 2) : (wR Z AD M n).set (6 + c) (AD (6 + c), .inr (7, [.int (M 8 c 0), .int (M 9 c 0), .int x, .int (M 11 c 0), .ref (AD (8 + c)), .ref (AD (10 + c)), .ref (AD (12 + c)), .ref (AD (14 + c)), .ref (AD 0)])) = wR Z AD (mu M 10 c 0 x) n := by
  have h : (wR Z AD M n).set (6 + c) (AD (6 + c), ctR Z AD (mu M 10 c 0 x) (6 + c)) = wR Z AD (mu M 10 c 0 x) n := wR_set 10 c 0 x
  rw [ctR_state hc, mu_s] at h
  exact h
theorem pR_11 {Z : gZ} {AD : Nat → Nat} {M : St} {n : Nat} {c : Nat} {x : Int32} (hc : c < 2) : (wR Z AD M n).set (6 + c) (AD (6 + c), .inr (7, [.int (M 8 c 0), .int (M 9 c 0), .int (M 10 c 0), .int x, .ref (AD (8 + c)), .ref (AD (10 + c)), .ref (AD (12 + c)), .ref (AD (14 + c)), .ref (AD 0)])) = wR Z AD (mu M 11 c 0 x) n := by
  have h : (wR Z AD M n).set (6 + c) (AD (6 + c), ctR Z AD (mu M 11 c 0 x) (6 + c)) = wR Z AD (mu M 11 c 0 x) n := wR_set 11 c 0 x
  rw [ctR_state hc, mu_s] at h
  exact h
theorem ctR_crys {Z : gZ} {AD : Nat → Nat} {M : St} {c : Nat} (hc : c < 2) : ctR Z AD M (8 + c) = .inl (Z.2.1, 8, .inl (M 12 c)) := by
  match c, hc with
  | 0, _ => rfl
  | 1, _ => rfl
  | q + 2, h => exact absurd h (by omega)
theorem gR_crys {Z : gZ} {AD : Nat → Nat} {M : St} {n : Nat} {c : Nat} (hc : c < 2) (hn : 16 ≤ n) : (wR Z AD M n)[8 + c]? = some (AD (8 + c), .inl (Z.2.1, 8, .inl (M 12 c))) := wm_get2 (by omega) (ctR_crys hc)
theorem ctR_lines {Z : gZ} {AD : Nat → Nat} {M : St} {c : Nat} (hc : c < 2) : ctR Z AD M (10 + c) = .inl (Z.2.1, 8, .inl (M 13 c)) := by
  match c, hc with
  | 0, _ => rfl
  | 1, _ => rfl
  | q + 2, h => exact absurd h (by omega)
theorem gR_lines {Z : gZ} {AD : Nat → Nat} {M : St} {n : Nat} {c : Nat} (hc : c < 2) (hn : 16 ≤ n) : (wR Z AD M n)[10 + c]? = some (AD (10 + c), .inl (Z.2.1, 8, .inl (M 13 c))) := wm_get2 (by omega) (ctR_lines hc)
theorem ctR_log {Z : gZ} {AD : Nat → Nat} {M : St} {c : Nat} (hc : c < 2) : ctR Z AD M (12 + c) = .inl (Z.2.1, 1280, .inl (M 14 c)) := by
  match c, hc with
  | 0, _ => rfl
  | 1, _ => rfl
  | q + 2, h => exact absurd h (by omega)
theorem gR_log {Z : gZ} {AD : Nat → Nat} {M : St} {n : Nat} {c : Nat} (hc : c < 2) (hn : 16 ≤ n) : (wR Z AD M n)[12 + c]? = some (AD (12 + c), .inl (Z.2.1, 1280, .inl (M 14 c))) := wm_get2 (by omega) (ctR_log hc)
theorem ctR_mail {Z : gZ} {AD : Nat → Nat} {M : St} {c : Nat} (hc : c < 2) : ctR Z AD M (14 + c) = .inl (Z.2.1, 60, .inl (M 15 c)) := by
  match c, hc with
  | 0, _ => rfl
  | 1, _ => rfl
  | q + 2, h => exact absurd h (by omega)
theorem gR_mail {Z : gZ} {AD : Nat → Nat} {M : St} {n : Nat} {c : Nat} (hc : c < 2) (hn : 16 ≤ n) : (wR Z AD M n)[14 + c]? = some (AD (14 + c), .inl (Z.2.1, 60, .inl (M 15 c))) := wm_get2 (by omega) (ctR_mail hc)
theorem pR_0 {Z : gZ} {AD : Nat → Nat} {M : St} {n i : Nat} {x : Int32} : (wR Z AD M n).set (1) (AD (1), .inl (Z.2.1, 72, .inl (upd (M 0 0) i x))) = wR Z AD (mu M 0 0 i x) n := by
  have h : (wR Z AD M n).set (1) (AD (1), ctR Z AD (mu M 0 0 i x) (1)) = wR Z AD (mu M 0 0 i x) n := wR_set 0 0 i x
  rw [ctR_air, mu_r] at h
  exact h
theorem pR_4 {Z : gZ} {AD : Nat → Nat} {M : St} {n i : Nat} {x : Int32} : (wR Z AD M n).set (2) (AD (2), .inl (Z.2.1, 8, .inl (upd (M 4 0) i x))) = wR Z AD (mu M 4 0 i x) n := by
  have h : (wR Z AD M n).set (2) (AD (2), ctR Z AD (mu M 4 0 i x) (2)) = wR Z AD (mu M 4 0 i x) n := wR_set 4 0 i x
  rw [ctR_turns, mu_r] at h
  exact h
theorem pR_5 {Z : gZ} {AD : Nat → Nat} {M : St} {n i : Nat} {x : Int32} : (wR Z AD M n).set (3) (AD (3), .inl (Z.2.1, 8, .inl (upd (M 5 0) i x))) = wR Z AD (mu M 5 0 i x) n := by
  have h : (wR Z AD M n).set (3) (AD (3), ctR Z AD (mu M 5 0 i x) (3)) = wR Z AD (mu M 5 0 i x) n := wR_set 5 0 i x
  rw [ctR_stand, mu_r] at h
  exact h
theorem pR_6 {Z : gZ} {AD : Nat → Nat} {M : St} {n i : Nat} {x : Int32} : (wR Z AD M n).set (4) (AD (4), .inl (Z.2.1, 8, .inl (upd (M 6 0) i x))) = wR Z AD (mu M 6 0 i x) n := by
  have h : (wR Z AD M n).set (4) (AD (4), ctR Z AD (mu M 6 0 i x) (4)) = wR Z AD (mu M 6 0 i x) n := wR_set 6 0 i x
  rw [ctR_aerial, mu_r] at h
  exact h
theorem pR_7 {Z : gZ} {AD : Nat → Nat} {M : St} {n i : Nat} {x : Int32} : (wR Z AD M n).set (5) (AD (5), .inl (Z.2.1, 8, .inl (upd (M 7 0) i x))) = wR Z AD (mu M 7 0 i x) n := by
  have h : (wR Z AD M n).set (5) (AD (5), ctR Z AD (mu M 7 0 i x) (5)) = wR Z AD (mu M 7 0 i x) n := wR_set 7 0 i x
  rw [ctR_ears, mu_r] at h
  exact h
theorem pR_12 {Z : gZ} {AD : Nat → Nat} {M : St} {n c i : Nat} {x : Int32} (hc : c < 2) : (wR Z AD M n).set (8 + c) (AD (8 + c), .inl (Z.2.1, 8, .inl (upd (M 12 c) i x))) = wR Z AD (mu M 12 c i x) n := by
  have h : (wR Z AD M n).set (8 + c) (AD (8 + c), ctR Z AD (mu M 12 c i x) (8 + c)) = wR Z AD (mu M 12 c i x) n := wR_set 12 c i x
  rw [ctR_crys hc, mu_r] at h
  exact h
theorem pR_13 {Z : gZ} {AD : Nat → Nat} {M : St} {n c i : Nat} {x : Int32} (hc : c < 2) : (wR Z AD M n).set (10 + c) (AD (10 + c), .inl (Z.2.1, 8, .inl (upd (M 13 c) i x))) = wR Z AD (mu M 13 c i x) n := by
  have h : (wR Z AD M n).set (10 + c) (AD (10 + c), ctR Z AD (mu M 13 c i x) (10 + c)) = wR Z AD (mu M 13 c i x) n := wR_set 13 c i x
  rw [ctR_lines hc, mu_r] at h
  exact h
theorem pR_14 {Z : gZ} {AD : Nat → Nat} {M : St} {n c i : Nat} {x : Int32} (hc : c < 2) : (wR Z AD M n).set (12 + c) (AD (12 + c), .inl (Z.2.1, 1280, .inl (upd (M 14 c) i x))) = wR Z AD (mu M 14 c i x) n := by
  have h : (wR Z AD M n).set (12 + c) (AD (12 + c), ctR Z AD (mu M 14 c i x) (12 + c)) = wR Z AD (mu M 14 c i x) n := wR_set 14 c i x
  rw [ctR_log hc, mu_r] at h
  exact h
theorem pR_15 {Z : gZ} {AD : Nat → Nat} {M : St} {n c i : Nat} {x : Int32} (hc : c < 2) : (wR Z AD M n).set (14 + c) (AD (14 + c), .inl (Z.2.1, 60, .inl (upd (M 15 c) i x))) = wR Z AD (mu M 15 c i x) n := by
  have h : (wR Z AD M n).set (14 + c) (AD (14 + c), ctR Z AD (mu M 15 c i x) (14 + c)) = wR Z AD (mu M 15 c i x) n := wR_set 15 c i x
  rw [ctR_mail hc, mu_r] at h
  exact h
section GROWS2
variable {p : Program} {l : Launch} {e : Env} {R : Room} {s : State} {m : MethodId} {args : Array Value} {below : List Frame} {meth : Method} {c : Code} {H : Heap} {locs : List Loc} {cells slots : Nat} {Q : State → Prop}
variable {Z : gZ} {A : Nat → Prop} {ws ws' : va_W} {cc : ByteArray} {nL pc : Nat} {own : String} {ret : Option FieldType} {ls : Array Slot} {rest : List Value}
theorem gg_ialdN (F : gF Z p m s args meth c cc nL own ret) (G : gG Z A s ws H locs) {a q0 n : Nat} (k : Nat) {f : Nat → Int32} {i : Int32} (he : ws[q0]? = some (a, .inl (Z.2.1, n, .inl f))) (hi : i = nI k) (hk : k < n) (hn : n < 2147483648) (hdg : decode cc pc = .ok (.iaload, 1))
    (kk : W p l e R s m args below meth c H locs cells slots Q (F0 m (pc + 1) ls (.int (f k) :: rest))) : W p l e R s m args below meth c H locs cells slots Q (F0 m pc ls (.int i :: .ref a :: rest)) := by
  subst hi
  exact gg_iald F G he (vp_in_nI hk hn) (by rw [nI_clamp (Nat.lt_trans hk hn)]) hdg kk
theorem gg_iastN (F : gF Z p m s args meth c cc nL own ret) (G : gG Z A s ws H locs) {a q0 n : Nat} (k : Nat) {f : Nat → Int32} {i x : Int32} (he : ws[q0]? = some (a, .inl (Z.2.1, n, .inl f))) (hi : i = nI k) (hk : k < n) (hn : n < 2147483648) (hw : ws.set q0 (a, .inl (Z.2.1, n, .inl (upd f k x))) = ws') (hdg : decode cc pc = .ok (.iastore, 1))
    (kk : ∀ (H1 : Heap) (locs1 : List Loc), gG Z A s ws' H1 locs1 → W p l e R s m args below meth c H1 locs1 cells slots Q (F0 m (pc + 1) ls rest)) : W p l e R s m args below meth c H locs cells slots Q (F0 m pc ls (.int x :: .int i :: .ref a :: rest)) := by
  subst hi
  exact gg_iast F G he (vp_in_nI hk hn) (by rw [nI_clamp (Nat.lt_trans hk hn)]; exact hw) hdg kk
end GROWS2
