/-! what hours leave as it was, both sides -/
theorem alMK_of {M : St} {c f a : Nat} : ∀ q, (∀ k, k < q → lmN M c k < 8) → ¬ (f = 16 ∧ ((8 * c ≤ a ∧ a < 8 * c + 8) ∨ a = 16 + c)) → (alMK M c q).1 f a = M f a
  | 0, _, _ => rfl
  | k + 1, h, h2 => by
    have ih := alMK_of k (fun i hi => h i (by omega)) h2
    have hm := h k (by omega)
    unfold alMK
    split
    · show takF (alMK M c k).1 (8 * c + lmN M c k) (llN M c k) f a = _
      rw [takF_of (by omega)]; exact ih
    · show cpR (alMK M c k).1 (16 + c) k (alMK M c k).2 f a = _
      rw [← ih]
      exact funext fun b => cpR_of (by omega)
/-- the cells of a club that hours may change -/
def hoC (c f a : Nat) : Prop := (4 ≤ f ∧ f ≤ 7 ∧ a = c) ∨ ((f = 11 ∨ f = 15 ∨ f = 16) ∧ ((8 * c ≤ a ∧ a < 8 * c + 8) ∨ a = 16 + c)) ∨ (f = 3 ∧ a = c)
theorem wcM_ne {M : St} {c f a : Nat} (h : ¬ (f = 11 ∧ 8 * c ≤ a ∧ a < 8 * c + 8)) : ∀ i, i ≤ 8 → wcM M c i f a = M f a
  | 0, _ => rfl
  | i + 1, hi => by
    show weaF (wcM M c i) (8 * c + i) f a = M f a
    rw [← wcM_ne (M := M) h i (by omega)]
    unfold weaF
    split
    · rfl
    · split
      · rfl
      · exact mu_ne (by omega)
theorem hrM_fr {M : St} {c ns nm f a : Nat} (h8 : nm ≤ 8) (hT : okT M c nm) (hc : c < 2) (h : ¬ hoC c f a) : hrM M c ns nm f a = M f a := by
  unfold hoC at h
  have e1 : wlM M c ns nm f a = M f a := wlM_of (by omega) nm (by omega)
  have hT1 : okT (wearF (wlM M c ns nm) c nm) c nm := okT_w hc h8 hT
  have e2 : wearF (wlM M c ns nm) c nm f a = wlM M c ns nm f a := by
    unfold wearF
    split
    · exact wcM_ne (by omega) nm h8
    · rfl
  unfold hrM
  rw [mu_ne (by omega)]
  unfold ansF
  rw [mu_ne (by omega), alMK_of _ (fun k hk => by have := (hT1.2.2 k hk).2.1; omega) (by omega), e2, e1]
theorem pass_fr {M N : St} {c ns nm H : Nat} (hc : c < 2) (h : hrI M N c ns nm H) {f a : Nat} (hf : ¬ hoC c f a) : ∀ i, H + i ≤ 1000000 → phM M c ns nm i f a = M f a
  | 0, _ => rfl
  | i + 1, hi => by
    obtain ⟨hcl, ⟨q, hl⟩, -⟩ := (pass_eq hc h i (by omega)).1
    show hrM (phM M c ns nm i) c ns nm f a = _
    rw [hrM_fr hcl.1.2 (leOk_T hcl hl).1 hc hf]
    exact pass_fr hc h hf i (by omega)
theorem hrS_fr {M : St} {c ns f a : Nat} {on : Int32} (h : f < 8 ∨ a ≠ c) : ∀ i, hrS M c ns on i f a = M f a
  | 0 => rfl
  | i + 1 => by
    unfold hrS
    split
    · exact hrS_fr h i
    · split
      · exact hrS_fr h i
      · rw [← hrS_fr (M := M) (ns := ns) (on := on) h i]
        unfold hsR
        split
        · rfl
        · split
          · exact liR_of (by omega) (by omega) (by omega)
          · rfl
theorem wrR_fr {M : St} {c f a : Nat} (h : f < 8 ∨ a ≠ c) : ∀ i, wrR M c i f a = M f a
  | 0 => rfl
  | i + 1 => by show mu (wrR M c i) 12 c i _ f a = M f a; rw [mu_ne (by omega)]; exact wrR_fr h i
theorem anR_fr {M : St} {c f a : Nat} (h : f < 8 ∨ a ≠ c) : ∀ k, (anR M c k).1 f a = M f a
  | 0 => rfl
  | k + 1 => by
    have ih := anR_fr (M := M) h k
    unfold anR
    split
    · split
      · exact ih
      · show mu (mu (anR M c k).1 14 c (4 * lnR M c k + 3) 1) 11 c 0 ((anR M c k).1 11 c 0 + 1) f a = _
        rw [mu_ne (by omega), mu_ne (by omega)]; exact ih
    · show mu (mu (anR M c k).1 15 c (2 * (anR M c k).2) (nI (lnR M c k))) 15 c (2 * (anR M c k).2 + 1) ((anR M c k).1 15 c (2 * k + 1)) f a = _
      rw [mu_ne (by omega), mu_ne (by omega)]; exact ih
theorem hoR_fr {M : St} {c ns nm f a : Nat} (h : f < 8 ∨ a ≠ c) : hoR M c ns nm f a = M f a := by
  unfold hoR
  rw [mu_ne (by omega)]
  unfold asR
  rw [mu_ne (by omega), anR_fr h]
  have e : weR (haR M c ns nm) c nm f a = haR M c ns nm f a := by
    unfold weR
    split
    · exact wrR_fr h nm
    · rfl
  rw [e]
  exact hrS_fr h nm
theorem paR_fr {M : St} {c ns nm f a : Nat} (h : f < 8 ∨ a ≠ c) : ∀ i, paR M c ns nm i f a = M f a
  | 0 => rfl
  | i + 1 => by show hoR (paR M c ns nm i) c ns nm f a = _; rw [hoR_fr h]; exact paR_fr h i
