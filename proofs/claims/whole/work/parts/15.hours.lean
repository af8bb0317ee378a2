/-! the club's hours and letters -/
def szN (M : St) (t : Nat) : Nat := (M 15 t 0).toNatClampNeg
def lmN (M : St) (c k : Nat) : Nat := (M 16 (16 + c) (k * 3 + 0)).toNatClampNeg
def llN (M : St) (c k : Nat) : Nat := (M 16 (16 + c) (k * 3 + 1)).toNatClampNeg
/-- every log has at most 40 lines -/
def okZ (M : St) (c nm : Nat) : Prop := ∀ i, i < nm → M 15 (8 * c + i) 0 = nI (szN M (8 * c + i)) ∧ szN M (8 * c + i) ≤ 40
/-- at most 30 letters, each of a line of a member -/
def okT (M : St) (c nm : Nat) : Prop := M 15 (16 + c) 0 = nI (szN M (16 + c)) ∧ szN M (16 + c) ≤ 30 ∧ ∀ k, k < szN M (16 + c) → M 16 (16 + c) (k * 3 + 0) = nI (lmN M c k) ∧ lmN M c k < nm ∧ M 16 (16 + c) (k * 3 + 1) = nI (llN M c k) ∧ llN M c k < 40
theorem full_0 {p : Prop} [Decidable p] (h : (if p then (0 : Int32) else 1) = 0) : p := by
  by_cases q : p
  · exact q
  · rw [if_neg q] at h; exact absurd h (by decide)
theorem full_1 {p : Prop} [Decidable p] (h : ¬ (if p then (0 : Int32) else 1) = 0) : ¬ p := fun q => h (if_pos q)
noncomputable def wrlM (M : St) (c j s ns : Nat) : St :=
  let X := heaM M c j (M 3 c 0) ns
  if verQ (getQ X c) < 0 then X else if b2 (hasP X j (verQ (getQ X c)) (X 3 c 0 / 24) s) = 0 then adlF X j s (X 3 c 0) (verQ (getQ X c)) (X 6 c 0) else X
noncomputable def wrlR (M : St) (c j s ns : Nat) : Int32 :=
  let X := heaM M c j (M 3 c 0) ns
  if verQ (getQ X c) < 0 then 0 else if b2 (hasP X j (verQ (getQ X c)) (X 3 c 0 / 24) s) = 0 then 1 else 0
noncomputable def wlM (M : St) (c ns : Nat) : Nat → St
  | 0 => M
  | i + 1 => if wlM M c ns i 14 (8 * c + i) 0 = 0 then wlM M c ns i else if (szN M (8 * c + i) + 1) * 4 ≤ 160 then wrlM (wlM M c ns i) c (8 * c + i) (szN M (8 * c + i)) ns else wlM M c ns i
noncomputable def wlN (M : St) (c ns : Nat) : Nat → Int32
  | 0 => 0
  | i + 1 => if wlM M c ns i 14 (8 * c + i) 0 = 0 then wlN M c ns i else if (szN M (8 * c + i) + 1) * 4 ≤ 160 then (if wrlR (wlM M c ns i) c (8 * c + i) (szN M (8 * c + i)) ns = 0 then wlN M c ns i else wlN M c ns i + 1) else wlN M c ns i
/-- what a written line leaves as it was -/
theorem wrlM_of {M : St} {c j s ns f a : Nat} (h : ¬ (4 ≤ f ∧ f ≤ 7 ∧ a = c)) (h2 : ¬ ((f = 15 ∨ f = 16) ∧ a = j)) : wrlM M c j s ns f a = M f a := by
  have h1 : heaM M c j (M 3 c 0) ns f a = M f a := funext fun b => setQ_of (fun z => h ⟨z.1, z.2.1, z.2.2.1⟩)
  unfold wrlM
  split
  · exact h1
  · split
    · unfold adlF
      rw [mu_ne (fun z => h2 ⟨Or.inl z.1, z.2⟩), mu_ne (fun z => h2 ⟨Or.inr z.1, z.2⟩), mu_ne (fun z => h2 ⟨Or.inr z.1, z.2⟩), mu_ne (fun z => h2 ⟨Or.inr z.1, z.2⟩), mu_ne (fun z => h2 ⟨Or.inr z.1, z.2⟩)]
      exact h1
    · exact h1
theorem wlM_of {M : St} {c ns f a : Nat} (h : ¬ (4 ≤ f ∧ f ≤ 7 ∧ a = c)) : ∀ i, ¬ ((f = 15 ∨ f = 16) ∧ 8 * c ≤ a ∧ a < 8 * c + i) → wlM M c ns i f a = M f a
  | 0, _ => rfl
  | i + 1, h2 => by
    have ih := wlM_of (M := M) (ns := ns) h i (fun z => h2 ⟨z.1, z.2.1, by omega⟩)
    unfold wlM
    split
    · exact ih
    · split
      · rw [wrlM_of h (fun z => h2 ⟨z.1, by omega, by omega⟩)]; exact ih
      · exact ih
theorem wlM_1 {M : St} {c ns i f a : Nat} (h : f < 4 ∨ f = 14 ∨ f = 17) : wlM M c ns i f a = M f a := wlM_of (by omega) i (by omega)
theorem wlM_S {M : St} {c ns n i : Nat} (h : okS M c ns n) : okS (wlM M c ns i) c ns n := by
  unfold okS at h ⊢
  rw [wlM_1 (by omega), show wlM M c ns i 17 c = M 17 c from wlM_1 (by omega)]
  exact h
theorem wlM_M {M : St} {c ns nm i : Nat} (h : okM M c nm) : okM (wlM M c ns i) c nm := by
  unfold okM at h ⊢
  rw [wlM_1 (by omega)]
  exact h
theorem wlM_sz {M : St} {c ns nm i : Nat} (h : okZ M c nm) (hi : i < nm) : wlM M c ns i 15 (8 * c + i) 0 = nI (szN M (8 * c + i)) := by
  rw [wlM_of (by omega) i (by omega)]
  exact (h i hi).1
def wcM (M : St) (c : Nat) : Nat → St
  | 0 => M
  | i + 1 => weaF (wcM M c i) (8 * c + i)
theorem weaF_of {M : St} {j f : Nat} (h : f ≠ 11) : weaF M j f = M f := by
  unfold weaF
  split
  · rfl
  · split
    · rfl
    · exact mu_o h
theorem wcM_of {M : St} {c f : Nat} (h : f ≠ 11) : ∀ i, wcM M c i f = M f
  | 0 => rfl
  | i + 1 => by show weaF (wcM M c i) (8 * c + i) f = M f; rw [weaF_of h, wcM_of h i]
/-- the crystals' hour -/
def wearF (M : St) (c nm : Nat) : St := if rmd (M 3 c 0) 6 = 0 then wcM M c nm else M
theorem wearF_of {M : St} {c nm f : Nat} (h : f ≠ 11) : wearF M c nm f = M f := by
  unfold wearF
  split
  · exact wcM_of h nm
  · rfl
/-- the letters' hour: the numbers and how many are kept, letter by letter -/
def alMK (M : St) (c : Nat) : Nat → St × Nat
  | 0 => (M, 0)
  | k + 1 => if (alMK M c k).1 16 (16 + c) (k * 3 + 2) ≤ (alMK M c k).1 3 c 0 then (takF (alMK M c k).1 (8 * c + lmN M c k) (llN M c k), (alMK M c k).2) else (cpR (alMK M c k).1 (16 + c) k (alMK M c k).2, (alMK M c k).2 + 1)
theorem alK_le {M : St} {c : Nat} : ∀ k, (alMK M c k).2 ≤ k
  | 0 => Nat.le_refl 0
  | k + 1 => by
    have h := alK_le (M := M) (c := c) k
    unfold alMK
    split
    · exact Nat.le_succ_of_le h
    · exact Nat.succ_le_succ h
theorem takF_of {M : St} {j k f a : Nat} (h : ¬ (f = 16 ∧ a = j)) : takF M j k f a = M f a := by
  unfold takF
  split
  · rfl
  · exact mu_ne h
theorem cpR_of {M : St} {t fr to f a b : Nat} (h : ¬ (f = 16 ∧ a = t ∧ to * 3 ≤ b ∧ b < to * 3 + 3)) : cpR M t fr to f a b = M f a b := by
  unfold cpR
  rw [mu_of (by omega), mu_of (by omega), mu_of (by omega)]
/-- letters behind the k-th are as they were -/
theorem al_row {M : St} {c nm : Nat} (hc : c < 2) (h8 : nm ≤ 8) {b : Nat} : ∀ k, (∀ i, i < k → lmN M c i < nm) → k * 3 ≤ b → (alMK M c k).1 16 (16 + c) b = M 16 (16 + c) b
  | 0, _, _ => rfl
  | k + 1, h, hb => by
    have ih := al_row (M := M) hc h8 (b := b) k (fun i hi => h i (by omega)) (by omega)
    have hk := alK_le (M := M) (c := c) k
    have hm := h k (by omega)
    unfold alMK
    split
    · show takF (alMK M c k).1 (8 * c + lmN M c k) (llN M c k) 16 (16 + c) b = _
      rw [takF_of (by omega)]; exact ih
    · show cpR (alMK M c k).1 (16 + c) k (alMK M c k).2 16 (16 + c) b = _
      rw [cpR_of (by omega)]; exact ih
theorem al_of {M : St} {c f : Nat} (h : f ≠ 16) : ∀ k, (alMK M c k).1 f = M f
  | 0 => rfl
  | k + 1 => by
    have ih := al_of (M := M) (c := c) h k
    unfold alMK
    split
    · show takF (alMK M c k).1 (8 * c + lmN M c k) (llN M c k) f = _
      rw [show takF (alMK M c k).1 (8 * c + lmN M c k) (llN M c k) f = (alMK M c k).1 f from funext fun a => takF_of (fun z => h z.1)]; exact ih
    · show cpR (alMK M c k).1 (16 + c) k (alMK M c k).2 f = _
      rw [show cpR (alMK M c k).1 (16 + c) k (alMK M c k).2 f = (alMK M c k).1 f from funext fun a => funext fun b => cpR_of (fun z => h z.1)]; exact ih
def ansF (M : St) (c : Nat) : St := mu (alMK M c (szN M (16 + c))).1 15 (16 + c) 0 (nI (alMK M c (szN M (16 + c))).2)
/-- an hour -/
noncomputable def hrM (M : St) (c ns nm : Nat) : St :=
  let X := ansF (wearF (wlM M c ns nm) c nm) c
  mu X 3 c 0 (X 3 c 0 + 1)
noncomputable def phM (M : St) (c ns nm : Nat) : Nat → St
  | 0 => M
  | i + 1 => hrM (phM M c ns nm i) c ns nm
noncomputable def phW (M : St) (c ns nm : Nat) : Nat → Int32
  | 0 => 0
  | i + 1 => phW M c ns nm i + wlN (phM M c ns nm i) c ns nm
def okA (M : St) (c ns nm n : Nat) : Prop := okS M c ns n ∧ okM M c nm ∧ okZ M c nm ∧ okT M c nm
theorem okT_of {M N : St} {c nm : Nat} (h : okT M c nm) (h1 : N 15 (16 + c) = M 15 (16 + c)) (h2 : N 16 (16 + c) = M 16 (16 + c)) : okT N c nm := by
  unfold okT szN lmN llN at h ⊢
  rw [h1, h2]
  exact h
theorem okT_w {M : St} {c ns nm i : Nat} (hc : c < 2) (hi : i ≤ 8) (h : okT M c nm) : okT (wearF (wlM M c ns i) c nm) c nm :=
  okT_of h (by rw [wearF_of (by omega), wlM_of (by omega) i (by omega)]) (by rw [wearF_of (by omega), wlM_of (by omega) i (by omega)])
theorem okM_w {M : St} {c ns nm i : Nat} (h : okM M c nm) : okM (wearF (wlM M c ns i) c nm) c nm := by
  unfold okM at h ⊢
  rw [wearF_of (by omega), wlM_1 (by omega)]
  exact h
/-- a letter is sent -/
def senD (M : St) (c k : Nat) : Int32 := M 3 c 0 + (M 0 k 2 / 10 + 2) * 24
def senF (M : St) (c i ln k q : Nat) : St := mu (mu (mu (mu M 16 (16 + c) (q * 3 + 0) (nI i)) 16 (16 + c) (q * 3 + 1) (nI ln)) 16 (16 + c) (q * 3 + 2) (senD M c k)) 15 (16 + c) 0 (nI (q + 1))
def hlP (M : St) (c : Nat) (x y : Int32) (q : Nat) : Prop := ∃ k, k < q ∧ M 16 (16 + c) (k * 3 + 0) = x ∧ M 16 (16 + c) (k * 3 + 1) = y
set_option maxRecDepth 100000 in
set_option maxHeartbeats 4000000 in
theorem c_X0_writeLine (Z : gZ) (l : Launch) (AD : Nat → Nat) (M : St) (n : Nat) (hn : 78 ≤ n) (c j s ns : Nat) (hc : c < 2) (hj : j < 16) (hS : okS M c ns n) (hs : M 15 j 0 = nI s) (hs2 : s < 40) : gM Z l yX0_writeLine cX0_writeLine 4 (some .boolean) ({ frames := 3, cells := 0, slots := 0, locals := 70 } : Room) [.ref (AD (1 + c)), .ref (AD (26 + j))] (wC Z AD M n) (some (.int (wrlR M c j s ns))) (wC Z AD (wrlM M c j s ns) n) 0 0 := by
  refine gM_of (by decide +kernel) (Nat.le_of_ble_eq_true rfl) ?_
  intro pP eE sS mI aA bB mE cC A F hname hG ls hl
  have hx := F.1
  have hb := F.2.1
  have hl : lv_has ls 4 [(0, .ref (AD (1 + c))), (1, .ref (AD (26 + j)))] := hl
  have hns2 := hS.2.1
  have hns3 := hS.2.2.1
  refine lv_aload_n hx hb dX0_writeLine_0 rfl (lv_at hl 0 rfl) ?_
  refine lv_aload_n hx hb dX0_writeLine_1 rfl (lv_at hl 1 rfl) ?_
  refine gg_getN F hG (ci := 3) (v := .ref (AD (9 + j))) 0 gcX3 rfl (gC_memb hj hn) (by decide) wn_16 rfl dX0_writeLine_2 ?_
  refine lv_aload_n hx hb dX0_writeLine_5 rfl (lv_at hl 0 rfl) ?_
  refine gg_get F hG (ci := 0) (v := .int (M 3 c 0)) 6 gcX0 rfl (gC_club hc hn) (by decide) w1_149 rfl dX0_writeLine_6 ?_
  refine gg_callV F hG (ci := 0) (As := [.ref (AD (9 + j)), .int (M 3 c 0)]) (rest := []) (c_X0_hearingOf Z l AD M _ hn c j _ hc (by omega) hS (M 3 c 0)) kY_X0_hearingOf kV_X0_hearingOf (gC_club hc hn) rfl rfl w3_144 rfl ⟨rfl, rfl⟩ ⟨(Nat.le_of_ble_eq_true rfl), (Nat.le_of_ble_eq_true rfl)⟩ rfl (Nat.le_of_ble_eq_true rfl) hl.1 ⟨Nat.zero_le _, Nat.zero_le _⟩ dX0_writeLine_9 rfl (fun H locs hG => ?_)
  refine lv_astore_n (lv' := [(2, .ref (AD (7 + c))), (0, .ref (AD (1 + c))), (1, .ref (AD (26 + j)))]) hx hb dX0_writeLine_12 rfl hl (by decide) rfl (fun ls hl => ?_)
  refine lv_aload_n hx hb dX0_writeLine_13 rfl (lv_at hl 0 rfl) ?_
  refine gg_callV F hG (ci := 2) (As := []) (rest := []) (c_X2_verdict Z l AD (heaM M c j (M 3 c 0) ns) _ hn c hc) kY_X2_verdict kV_X2_verdict (gC_hear hc hn) rfl rfl w3_145 rfl ⟨rfl, rfl⟩ ⟨(Nat.le_of_ble_eq_true rfl), (Nat.le_of_ble_eq_true rfl)⟩ rfl (Nat.le_of_ble_eq_true rfl) hl.1 ⟨Nat.zero_le _, Nat.zero_le _⟩ dX0_writeLine_14 rfl (fun H locs hG => ?_)
  refine lv_istore_n (lv' := [(3, .int (verQ (getQ (heaM M c j (M 3 c 0) ns) c))), (2, .ref (AD (7 + c))), (0, .ref (AD (1 + c))), (1, .ref (AD (26 + j)))]) hx hb dX0_writeLine_17 rfl hl (by decide) rfl (fun ls hl => ?_)
  refine lv_iload_n hx hb dX0_writeLine_18 rfl (lv_at hl 0 rfl) ?_
  refine lv_if_lt (tgt := 37) hx hb dX0_writeLine_19 (by decide) (fun h19 => ?_) (fun h19 => ?_)
  · refine lv_iconst (v := 0) hx hb dX0_writeLine_37 (by decide) ?_
    exact gg_iret F hG rfl (Eq.symm (if_pos h19)) (congrArg (fun q => wC Z AD q n) (Eq.symm (if_pos h19))) dX0_writeLine_38
  · refine lv_aload_n hx hb dX0_writeLine_22 rfl (lv_at hl 3 rfl) ?_
    refine lv_iload_n hx hb dX0_writeLine_23 rfl (lv_at hl 0 rfl) ?_
    refine lv_aload_n hx hb dX0_writeLine_24 rfl (lv_at hl 2 rfl) ?_
    refine gg_get F hG (ci := 0) (v := .int ((heaM M c j (M 3 c 0) ns) 3 c 0)) 6 gcX0 rfl (gC_club hc hn) (by decide) w1_149 rfl dX0_writeLine_25 ?_
    refine lv_bipush (v := 24) hx hb dX0_writeLine_28 (by decide) ?_
    refine lv_idiv hx hb dX0_writeLine_30 (by decide) ?_
    refine gg_callV F hG (ci := 3) (As := [.int (verQ (getQ (heaM M c j (M 3 c 0) ns) c)), .int (((heaM M c j (M 3 c 0) ns) 3 c 0) / 24)]) (rest := []) (c_X3_hasLineOf Z l AD (heaM M c j (M 3 c 0) ns) _ hn j s hj hs (by omega) (verQ (getQ (heaM M c j (M 3 c 0) ns) c)) (((heaM M c j (M 3 c 0) ns) 3 c 0) / 24)) kY_X3_hasLineOf kV_X3_hasLineOf (gC_memb hj hn) rfl rfl w3_146 rfl ⟨rfl, rfl⟩ ⟨(Nat.le_of_ble_eq_true rfl), (Nat.le_of_ble_eq_true rfl)⟩ rfl (Nat.le_of_ble_eq_true rfl) hl.1 ⟨Nat.zero_le _, Nat.zero_le _⟩ dX0_writeLine_31 rfl (fun H locs hG => ?_)
    refine lv_if_eq (tgt := 39) hx hb dX0_writeLine_34 (by decide) (fun h34 => ?_) (fun h34 => ?_)
    · refine lv_aload_n hx hb dX0_writeLine_39 rfl (lv_at hl 3 rfl) ?_
      refine lv_aload_n hx hb dX0_writeLine_40 rfl (lv_at hl 2 rfl) ?_
      refine gg_get F hG (ci := 0) (v := .int ((heaM M c j (M 3 c 0) ns) 3 c 0)) 6 gcX0 rfl (gC_club hc hn) (by decide) w1_149 rfl dX0_writeLine_41 ?_
      refine lv_iload_n hx hb dX0_writeLine_44 rfl (lv_at hl 0 rfl) ?_
      refine lv_aload_n hx hb dX0_writeLine_45 rfl (lv_at hl 1 rfl) ?_
      refine gg_getN F hG (ci := 2) (v := .int ((heaM M c j (M 3 c 0) ns) 6 c 0)) 2 gcX2 rfl (gC_hear hc hn) (by decide) wn_23 rfl dX0_writeLine_46 ?_
      refine gg_callV F hG (ci := 3) (As := [.int ((heaM M c j (M 3 c 0) ns) 3 c 0), .int (verQ (getQ (heaM M c j (M 3 c 0) ns) c)), .int ((heaM M c j (M 3 c 0) ns) 6 c 0)]) (rest := []) (c_X3_addLine Z l AD (heaM M c j (M 3 c 0) ns) _ hn j s hj hs (by omega) ((heaM M c j (M 3 c 0) ns) 3 c 0) (verQ (getQ (heaM M c j (M 3 c 0) ns) c)) ((heaM M c j (M 3 c 0) ns) 6 c 0)) kY_X3_addLine kV_X3_addLine (gC_memb hj hn) rfl rfl w3_150 rfl ⟨rfl, rfl⟩ ⟨(Nat.le_of_ble_eq_true rfl), (Nat.le_of_ble_eq_true rfl)⟩ rfl (Nat.le_of_ble_eq_true rfl) hl.1 ⟨Nat.zero_le _, Nat.zero_le _⟩ dX0_writeLine_49 rfl (fun H locs hG => ?_)
      refine lv_iconst (v := 1) hx hb dX0_writeLine_52 (by decide) ?_
      exact gg_iret F hG rfl (Eq.symm ((if_neg h19).trans (if_pos h34))) (congrArg (fun q => wC Z AD q n) (Eq.symm ((if_neg h19).trans (if_pos h34)))) dX0_writeLine_53
    · refine lv_iconst (v := 0) hx hb dX0_writeLine_37 (by decide) ?_
      exact gg_iret F hG rfl (Eq.symm ((if_neg h19).trans (if_neg h34))) (congrArg (fun q => wC Z AD q n) (Eq.symm ((if_neg h19).trans (if_neg h34)))) dX0_writeLine_38
set_option maxRecDepth 100000 in
set_option maxHeartbeats 4000000 in
theorem c_X0_writeLines (Z : gZ) (l : Launch) (AD : Nat → Nat) (M : St) (n : Nat) (hn : 78 ≤ n) (c ns nm : Nat) (hc : c < 2) (hS : okS M c ns n) (hM : okM M c nm) (hZ : okZ M c nm) : gM Z l yX0_writeLines cX0_writeLines 4 (some .int) ({ frames := 4, cells := 0, slots := 0, locals := 93 } : Room) [.ref (AD (1 + c))] (wC Z AD M n) (some (.int (wlN M c ns nm))) (wC Z AD (wlM M c ns nm) n) 0 0 := by
  refine gM_of (by decide +kernel) (Nat.le_of_ble_eq_true rfl) ?_
  intro pP eE sS mI aA bB mE cC A F hname hG ls hl
  have hx := F.1
  have hb := F.2.1
  have hl : lv_has ls 4 [(0, .ref (AD (1 + c)))] := hl
  have hnm2 := hM.2
  refine lv_iconst (v := 0) hx hb dX0_writeLines_0 (by decide) ?_
  refine lv_istore_n (lv' := [(1, .int 0), (0, .ref (AD (1 + c)))]) hx hb dX0_writeLines_1 rfl hl (by decide) rfl (fun ls hl => ?_)
  refine lv_iconst (v := nI 0) hx hb dX0_writeLines_2 rfl ?_
  refine lv_istore_n (lv' := [(2, .int (nI 0)), (1, .int 0), (0, .ref (AD (1 + c)))]) hx hb dX0_writeLines_3 rfl hl (by decide) rfl (fun ls hl => ?_)
  have loop4 : ∀ (fuQ i : Nat), i ≤ nm → nm + 1 ≤ i + fuQ → ∀ (H : Heap) (locs : List Loc), gG Z A sS (wC Z AD (wlM M c ns i) n) H locs → ∀ ls : Array Slot, lv_has ls 4 [(0, .ref (AD (1 + c))), (1, .int (wlN M c ns i)), (2, .int (nI i))] → W pP l eE ({ frames := 4, cells := 0, slots := 0, locals := 93 } : Room) sS mI aA bB mE cC H locs 0 0 (MQ bB (gQ Z A (some (.int (wlN M c ns nm))) (wC Z AD (wlM M c ns nm) n)) aA sS 0 0 A) (F0 mI 4 ls []) := by
    intro fuQ
    induction fuQ with
    | zero =>
      intro i h1 h2
      exact absurd h2 (by omega)
    | succ fuQ ih4 =>
      intro i hleQ hfuQ H locs hG ls hl
      by_cases hlt : i < nm
      · have hZ1 := (hZ i hlt).2
        refine lv_iload_n hx hb dX0_writeLines_4 rfl (lv_at hl 2 rfl) ?_
        refine lv_aload_n hx hb dX0_writeLines_5 rfl (lv_at hl 0 rfl) ?_
        refine gg_get F hG (ci := 0) (v := .int (nI nm)) 5 gcX0 rfl (gC_club hc hn) (by decide) w1_147 (congrArg (fun z => some (Value.int z)) (wlM_M (ns := ns) (i := i) hM).1) dX0_writeLines_6 ?_
        refine lv_icmp_ge (tgt := 56) hx hb dX0_writeLines_9 (by decide) (fun h9 => absurd h9 (nI_ge hlt (by omega))) (fun h9 => ?_)
        refine lv_aload_n hx hb dX0_writeLines_12 rfl (lv_at hl 0 rfl) ?_
        refine lv_iload_n hx hb dX0_writeLines_13 rfl (lv_at hl 2 rfl) ?_
        refine gg_callV F hG (ci := 0) (As := [.int (nI i)]) (rest := []) (c_X0_memberAt Z l AD (wlM M c ns i) _ hn c hc _ i (wlM_M hM) hlt) kY_X0_memberAt kV_X0_memberAt (gC_club hc hn) rfl rfl w1_186 rfl ⟨rfl, rfl⟩ ⟨(Nat.le_of_ble_eq_true rfl), (Nat.le_of_ble_eq_true rfl)⟩ rfl (Nat.le_of_ble_eq_true rfl) hl.1 ⟨Nat.zero_le _, Nat.zero_le _⟩ dX0_writeLines_14 rfl (fun H locs hG => ?_)
        refine lv_astore_n (lv' := [(3, .ref (AD (26 + (8 * c + i)))), (0, .ref (AD (1 + c))), (1, .int (wlN M c ns i)), (2, .int (nI i))]) hx hb dX0_writeLines_17 rfl hl (by decide) rfl (fun ls hl => ?_)
        refine lv_aload_n hx hb dX0_writeLines_18 rfl (lv_at hl 0 rfl) ?_
        refine lv_ifnull hx hb dX0_writeLines_19 ?_
        refine lv_aload_n hx hb dX0_writeLines_22 rfl (lv_at hl 0 rfl) ?_
        refine gg_getN F hG (ci := 3) (v := .int ((wlM M c ns i) 14 (8 * c + i) 0)) 2 gcX3 rfl (gC_memb (by omega) hn) (by decide) wn_21 rfl dX0_writeLines_23 ?_
        refine lv_if_eq (tgt := 50) hx hb dX0_writeLines_26 (by decide) (fun h26 => ?_) (fun h26 => ?_)
        · refine lv_iinc (v := nI (i + 1)) (lv' := [(2, .int (nI (i + 1))), (3, .ref (AD (26 + (8 * c + i)))), (0, .ref (AD (1 + c))), (1, .int (wlN M c ns i))]) hx hb dX0_writeLines_50 hl (k := 3) rfl (nI_1 _) (by decide) rfl (fun ls hl => ?_)
          refine lv_goto (tgt := 4) hx hb dX0_writeLines_53 (by decide) ?_
          have e9 : wlN M c ns (i + 1) = wlN M c ns i := if_pos h26
          exact ih4 (i + 1) (by omega) (by omega) _ _ (hG.to (congrArg (fun q => wC Z AD q n) (Eq.symm (if_pos h26)))) ls (by rw [e9]; exact lv_sub hl [2, 3, 0] rfl)
        · refine lv_aload_n hx hb dX0_writeLines_29 rfl (lv_at hl 0 rfl) ?_
          refine gg_getN F hG (ci := 3) (v := .ref (AD (42 + (8 * c + i)))) 1 gcX3 rfl (gC_memb (by omega) hn) (by decide) wn_18 rfl dX0_writeLines_30 ?_
          refine gg_callV F hG (ci := 5) (As := []) (rest := []) (c_X5_isFull Z l AD (wlM M c ns i) _ hn (8 * c + i) 4 160 (szN M (8 * c + i)) (by omega) (if_pos (by omega)) (if_pos (by omega)) (by omega) (wlM_sz hZ hlt) (by omega)) kY_X5_isFull kV_X5_isFull (gC_tabl (by omega) hn) rfl rfl w3_139 rfl ⟨rfl, rfl⟩ ⟨(Nat.le_of_ble_eq_true rfl), (Nat.le_of_ble_eq_true rfl)⟩ rfl (Nat.le_of_ble_eq_true rfl) hl.1 ⟨Nat.zero_le _, Nat.zero_le _⟩ dX0_writeLines_33 rfl (fun H locs hG => ?_)
          refine lv_if_ne (tgt := 50) hx hb dX0_writeLines_36 (by decide) (fun h36 => ?_) (fun h36 => ?_)
          · refine lv_iinc (v := nI (i + 1)) (lv' := [(2, .int (nI (i + 1))), (3, .ref (AD (26 + (8 * c + i)))), (0, .ref (AD (1 + c))), (1, .int (wlN M c ns i))]) hx hb dX0_writeLines_50 hl (k := 3) rfl (nI_1 _) (by decide) rfl (fun ls hl => ?_)
            refine lv_goto (tgt := 4) hx hb dX0_writeLines_53 (by decide) ?_
            have e9 : wlN M c ns (i + 1) = wlN M c ns i := (if_neg h26).trans (if_neg (full_1 h36))
            exact ih4 (i + 1) (by omega) (by omega) _ _ (hG.to (congrArg (fun q => wC Z AD q n) (Eq.symm ((if_neg h26).trans (if_neg (full_1 h36)))))) ls (by rw [e9]; exact lv_sub hl [2, 3, 0] rfl)
          · refine lv_aload_n hx hb dX0_writeLines_39 rfl (lv_at hl 1 rfl) ?_
            refine lv_aload_n hx hb dX0_writeLines_40 rfl (lv_at hl 0 rfl) ?_
            refine gg_callV F hG (ci := 0) (As := [.ref (AD (26 + (8 * c + i)))]) (rest := []) (c_X0_writeLine Z l AD (wlM M c ns i) _ hn c (8 * c + i) (szN M (8 * c + i)) _ hc (by omega) (wlM_S hS) (wlM_sz hZ hlt) (by have := full_0 h36; omega)) kY_X0_writeLine kV_X0_writeLine (gC_club hc hn) rfl rfl w3_140 rfl ⟨rfl, rfl⟩ ⟨(Nat.le_of_ble_eq_true rfl), (Nat.le_of_ble_eq_true rfl)⟩ rfl (Nat.le_of_ble_eq_true rfl) hl.1 ⟨Nat.zero_le _, Nat.zero_le _⟩ dX0_writeLines_41 rfl (fun H locs hG => ?_)
            refine lv_if_eq (tgt := 50) hx hb dX0_writeLines_44 (by decide) (fun h44 => ?_) (fun h44 => ?_)
            · refine lv_iinc (v := nI (i + 1)) (lv' := [(2, .int (nI (i + 1))), (3, .ref (AD (26 + (8 * c + i)))), (0, .ref (AD (1 + c))), (1, .int (wlN M c ns i))]) hx hb dX0_writeLines_50 hl (k := 3) rfl (nI_1 _) (by decide) rfl (fun ls hl => ?_)
              refine lv_goto (tgt := 4) hx hb dX0_writeLines_53 (by decide) ?_
              have e9 : wlN M c ns (i + 1) = wlN M c ns i := (if_neg h26).trans ((if_pos (full_0 h36)).trans (if_pos h44))
              exact ih4 (i + 1) (by omega) (by omega) _ _ (hG.to (congrArg (fun q => wC Z AD q n) (Eq.symm ((if_neg h26).trans (if_pos (full_0 h36)))))) ls (by rw [e9]; exact lv_sub hl [2, 3, 0] rfl)
            · refine lv_iinc (v := (wlN M c ns i) + 1) (lv' := [(1, .int ((wlN M c ns i) + 1)), (3, .ref (AD (26 + (8 * c + i)))), (0, .ref (AD (1 + c))), (2, .int (nI i))]) hx hb dX0_writeLines_47 hl (k := 2) rfl rfl (by decide) rfl (fun ls hl => ?_)
              refine lv_iinc (v := nI (i + 1)) (lv' := [(2, .int (nI (i + 1))), (1, .int ((wlN M c ns i) + 1)), (3, .ref (AD (26 + (8 * c + i)))), (0, .ref (AD (1 + c)))]) hx hb dX0_writeLines_50 hl (k := 3) rfl (nI_1 _) (by decide) rfl (fun ls hl => ?_)
              refine lv_goto (tgt := 4) hx hb dX0_writeLines_53 (by decide) ?_
              have e9 : wlN M c ns (i + 1) = wlN M c ns i + 1 := (if_neg h26).trans ((if_pos (full_0 h36)).trans (if_neg h44))
              exact ih4 (i + 1) (by omega) (by omega) _ _ (hG.to (congrArg (fun q => wC Z AD q n) (Eq.symm ((if_neg h26).trans (if_pos (full_0 h36)))))) ls (by rw [e9]; exact lv_sub hl [3, 1, 0] rfl)
      · have hN : nm = i := by omega
        subst hN
        refine lv_iload_n hx hb dX0_writeLines_4 rfl (lv_at hl 2 rfl) ?_
        refine lv_aload_n hx hb dX0_writeLines_5 rfl (lv_at hl 0 rfl) ?_
        refine gg_get F hG (ci := 0) (v := .int (nI nm)) 5 gcX0 rfl (gC_club hc hn) (by decide) w1_147 (congrArg (fun z => some (Value.int z)) (wlM_M (ns := ns) (i := nm) hM).1) dX0_writeLines_6 ?_
        refine lv_icmp_ge (tgt := 56) hx hb dX0_writeLines_9 (by decide) (fun h9 => ?_) (fun h9 => absurd (nI_le (Nat.le_refl _) (by omega)) h9)
        refine lv_iload_n hx hb dX0_writeLines_56 rfl (lv_at hl 1 rfl) ?_
        exact gg_iret F hG rfl rfl rfl dX0_writeLines_57
  exact loop4 (nm + 1) 0 (Nat.zero_le _) (by omega) _ _ hG ls (lv_sub hl [2, 1, 0] rfl)
set_option maxRecDepth 100000 in
set_option maxHeartbeats 4000000 in
theorem c_X0_wearCrystals (Z : gZ) (l : Launch) (AD : Nat → Nat) (M : St) (n : Nat) (hn : 78 ≤ n) (c nm : Nat) (hc : c < 2) (hM : okM M c nm) : gM Z l yX0_wearCrystals cX0_wearCrystals 3 none ({ frames := 1, cells := 0, slots := 0, locals := 22 } : Room) [.ref (AD (1 + c))] (wC Z AD M n) (none) (wC Z AD (wearF M c nm) n) 0 0 := by
  refine gM_of (by decide +kernel) (Nat.le_of_ble_eq_true rfl) ?_
  intro pP eE sS mI aA bB mE cC A F hname hG ls hl
  have hx := F.1
  have hb := F.2.1
  have hl : lv_has ls 3 [(0, .ref (AD (1 + c)))] := hl
  have hnm2 := hM.2
  refine lv_aload_n hx hb dX0_wearCrystals_0 rfl (lv_at hl 0 rfl) ?_
  refine gg_get F hG (ci := 0) (v := .int (M 3 c 0)) 6 gcX0 rfl (gC_club hc hn) (by decide) w1_149 rfl dX0_wearCrystals_1 ?_
  refine lv_bipush (v := 6) hx hb dX0_wearCrystals_4 (by decide) ?_
  refine lv_irem hx hb dX0_wearCrystals_6 (by decide) ?_
  refine lv_if_eq (tgt := 11) hx hb dX0_wearCrystals_7 (by decide) (fun h7 => ?_) (fun h7 => ?_)
  · refine lv_iconst (v := nI 0) hx hb dX0_wearCrystals_11 rfl ?_
    refine lv_istore_n (lv' := [(1, .int (nI 0)), (0, .ref (AD (1 + c)))]) hx hb dX0_wearCrystals_12 rfl hl (by decide) rfl (fun ls hl => ?_)
    have loop13 : ∀ (fuQ i : Nat), i ≤ nm → nm + 1 ≤ i + fuQ → ∀ (H : Heap) (locs : List Loc), gG Z A sS (wC Z AD (wcM M c i) n) H locs → ∀ ls : Array Slot, lv_has ls 3 [(0, .ref (AD (1 + c))), (1, .int (nI i))] → W pP l eE ({ frames := 1, cells := 0, slots := 0, locals := 22 } : Room) sS mI aA bB mE cC H locs 0 0 (MQ bB (gQ Z A (none) (wC Z AD (wearF M c nm) n)) aA sS 0 0 A) (F0 mI 13 ls []) := by
      intro fuQ
      induction fuQ with
      | zero =>
        intro i h1 h2
        exact absurd h2 (by omega)
      | succ fuQ ih13 =>
        intro i hleQ hfuQ H locs hG ls hl
        by_cases hlt : i < nm
        · refine lv_iload_n hx hb dX0_wearCrystals_13 rfl (lv_at hl 1 rfl) ?_
          refine lv_aload_n hx hb dX0_wearCrystals_14 rfl (lv_at hl 0 rfl) ?_
          refine gg_get F hG (ci := 0) (v := .int (nI nm)) 5 gcX0 rfl (gC_club hc hn) (by decide) w1_147 (congrArg (fun z => some (Value.int z)) (show wcM M c i 2 c 0 = nI nm by rw [wcM_of (by omega)]; exact hM.1)) dX0_wearCrystals_15 ?_
          refine lv_icmp_ge (tgt := 41) hx hb dX0_wearCrystals_18 (by decide) (fun h18 => absurd h18 (nI_ge hlt (by omega))) (fun h18 => ?_)
          refine lv_aload_n hx hb dX0_wearCrystals_21 rfl (lv_at hl 0 rfl) ?_
          refine lv_iload_n hx hb dX0_wearCrystals_22 rfl (lv_at hl 1 rfl) ?_
          refine gg_callV F hG (ci := 0) (As := [.int (nI i)]) (rest := []) (c_X0_memberAt Z l AD (wcM M c i) _ hn c hc _ i (show okM (wcM M c i) c nm from ⟨by rw [wcM_of (by omega)]; exact hM.1, hM.2⟩) hlt) kY_X0_memberAt kV_X0_memberAt (gC_club hc hn) rfl rfl w1_186 rfl ⟨rfl, rfl⟩ ⟨(Nat.le_of_ble_eq_true rfl), (Nat.le_of_ble_eq_true rfl)⟩ rfl (Nat.le_of_ble_eq_true rfl) hl.1 ⟨Nat.zero_le _, Nat.zero_le _⟩ dX0_wearCrystals_23 rfl (fun H locs hG => ?_)
          refine lv_astore_n (lv' := [(2, .ref (AD (26 + (8 * c + i)))), (0, .ref (AD (1 + c))), (1, .int (nI i))]) hx hb dX0_wearCrystals_26 rfl hl (by decide) rfl (fun ls hl => ?_)
          refine lv_aload_n hx hb dX0_wearCrystals_27 rfl (lv_at hl 0 rfl) ?_
          refine lv_ifnull hx hb dX0_wearCrystals_28 ?_
          refine lv_aload_n hx hb dX0_wearCrystals_31 rfl (lv_at hl 0 rfl) ?_
          refine gg_callV F hG (ci := 3) (As := []) (rest := []) (c_X3_wearCrystal Z l AD (wcM M c i) _ hn (8 * c + i) (by omega)) kY_X3_wearCrystal kV_X3_wearCrystal (gC_memb (by omega) hn) rfl rfl w3_159 rfl ⟨rfl, rfl⟩ ⟨(Nat.le_of_ble_eq_true rfl), (Nat.le_of_ble_eq_true rfl)⟩ rfl (Nat.le_of_ble_eq_true rfl) hl.1 ⟨Nat.zero_le _, Nat.zero_le _⟩ dX0_wearCrystals_32 rfl (fun H locs hG => ?_)
          refine lv_iinc (v := nI (i + 1)) (lv' := [(1, .int (nI (i + 1))), (2, .ref (AD (26 + (8 * c + i)))), (0, .ref (AD (1 + c)))]) hx hb dX0_wearCrystals_35 hl (k := 2) rfl (nI_1 _) (by decide) rfl (fun ls hl => ?_)
          refine lv_goto (tgt := 13) hx hb dX0_wearCrystals_38 (by decide) ?_
          exact ih13 (i + 1) (by omega) (by omega) _ _ hG ls (lv_sub hl [2, 0] rfl)
        · have hN : nm = i := by omega
          subst hN
          refine lv_iload_n hx hb dX0_wearCrystals_13 rfl (lv_at hl 1 rfl) ?_
          refine lv_aload_n hx hb dX0_wearCrystals_14 rfl (lv_at hl 0 rfl) ?_
          refine gg_get F hG (ci := 0) (v := .int (nI nm)) 5 gcX0 rfl (gC_club hc hn) (by decide) w1_147 (congrArg (fun z => some (Value.int z)) (show wcM M c nm 2 c 0 = nI nm by rw [wcM_of (by omega)]; exact hM.1)) dX0_wearCrystals_15 ?_
          refine lv_icmp_ge (tgt := 41) hx hb dX0_wearCrystals_18 (by decide) (fun h18 => ?_) (fun h18 => absurd (nI_le (Nat.le_refl _) (by omega)) h18)
          exact gg_vret F hG (congrArg (fun q => wC Z AD q n) (Eq.symm (if_pos h7))) dX0_wearCrystals_41
    exact loop13 (nm + 1) 0 (Nat.zero_le _) (by omega) _ _ hG ls (lv_sub hl [1, 0] rfl)
  · exact gg_vret F hG (congrArg (fun q => wC Z AD q n) (Eq.symm (if_neg h7))) dX0_wearCrystals_10
set_option maxRecDepth 100000 in
set_option maxHeartbeats 4000000 in
theorem c_X0_answer (Z : gZ) (l : Launch) (AD : Nat → Nat) (M : St) (n : Nat) (hn : 78 ≤ n) (c nm i k : Nat) (hc : c < 2) (hM : okM M c nm) (hi : i < nm) (hk : k < 40) : gM Z l yX0_answer cX0_answer 4 none ({ frames := 2, cells := 0, slots := 0, locals := 45 } : Room) [.ref (AD (1 + c)), .int (nI i), .int (nI k)] (wC Z AD M n) (none) (wC Z AD (takF M (8 * c + i) k) n) 0 0 := by
  refine gM_of (by decide +kernel) (Nat.le_of_ble_eq_true rfl) ?_
  intro pP eE sS mI aA bB mE cC A F hname hG ls hl
  have hx := F.1
  have hb := F.2.1
  have hl : lv_has ls 4 [(0, .ref (AD (1 + c))), (1, .int (nI i)), (2, .int (nI k))] := hl
  have hnm2 := hM.2
  refine lv_aload_n hx hb dX0_answer_0 rfl (lv_at hl 0 rfl) ?_
  refine lv_iload_n hx hb dX0_answer_1 rfl (lv_at hl 1 rfl) ?_
  refine gg_callV F hG (ci := 0) (As := [.int (nI i)]) (rest := []) (c_X0_memberAt Z l AD M _ hn c hc _ i hM hi) kY_X0_memberAt kV_X0_memberAt (gC_club hc hn) rfl rfl w1_186 rfl ⟨rfl, rfl⟩ ⟨(Nat.le_of_ble_eq_true rfl), (Nat.le_of_ble_eq_true rfl)⟩ rfl (Nat.le_of_ble_eq_true rfl) hl.1 ⟨Nat.zero_le _, Nat.zero_le _⟩ dX0_answer_2 rfl (fun H locs hG => ?_)
  refine lv_astore_n (lv' := [(3, .ref (AD (26 + (8 * c + i)))), (0, .ref (AD (1 + c))), (1, .int (nI i)), (2, .int (nI k))]) hx hb dX0_answer_5 rfl hl (by decide) rfl (fun ls hl => ?_)
  refine lv_aload_n hx hb dX0_answer_6 rfl (lv_at hl 0 rfl) ?_
  refine lv_ifnull hx hb dX0_answer_7 ?_
  refine lv_aload_n hx hb dX0_answer_10 rfl (lv_at hl 0 rfl) ?_
  refine lv_iload_n hx hb dX0_answer_11 rfl (lv_at hl 3 rfl) ?_
  refine gg_callV F hG (ci := 3) (As := [.int (nI k)]) (rest := []) (c_X3_takeAnswer Z l AD M _ hn (8 * c + i) k (by omega) hk) kY_X3_takeAnswer kV_X3_takeAnswer (gC_memb (by omega) hn) rfl rfl w3_176 rfl ⟨rfl, rfl⟩ ⟨(Nat.le_of_ble_eq_true rfl), (Nat.le_of_ble_eq_true rfl)⟩ rfl (Nat.le_of_ble_eq_true rfl) hl.1 ⟨Nat.zero_le _, Nat.zero_le _⟩ dX0_answer_12 rfl (fun H locs hG => ?_)
  exact gg_vret F hG rfl dX0_answer_15
set_option maxRecDepth 100000 in
set_option maxHeartbeats 4000000 in
theorem c_X0_answerLetters (Z : gZ) (l : Launch) (AD : Nat → Nat) (M : St) (n : Nat) (hn : 78 ≤ n) (c nm : Nat) (hc : c < 2) (hM : okM M c nm) (hT : okT M c nm) : gM Z l yX0_answerLetters cX0_answerLetters 3 none ({ frames := 3, cells := 0, slots := 0, locals := 68 } : Room) [.ref (AD (1 + c))] (wC Z AD M n) (none) (wC Z AD (ansF M c) n) 0 0 := by
  refine gM_of (by decide +kernel) (Nat.le_of_ble_eq_true rfl) ?_
  intro pP eE sS mI aA bB mE cC A F hname hG ls hl
  have hx := F.1
  have hb := F.2.1
  have hl : lv_has ls 3 [(0, .ref (AD (1 + c)))] := hl
  have hT2 := hT.2.1
  have hnm8 := hM.2
  refine lv_iconst (v := nI 0) hx hb dX0_answerLetters_0 rfl ?_
  refine lv_istore_n (lv' := [(1, .int (nI 0)), (0, .ref (AD (1 + c)))]) hx hb dX0_answerLetters_1 rfl hl (by decide) rfl (fun ls hl => ?_)
  refine lv_iconst (v := nI 0) hx hb dX0_answerLetters_2 rfl ?_
  refine lv_istore_n (lv' := [(2, .int (nI 0)), (1, .int (nI 0)), (0, .ref (AD (1 + c)))]) hx hb dX0_answerLetters_3 rfl hl (by decide) rfl (fun ls hl => ?_)
  have loop4 : ∀ (fuQ k : Nat), k ≤ szN M (16 + c) → szN M (16 + c) + 1 ≤ k + fuQ → ∀ (H : Heap) (locs : List Loc), gG Z A sS (wC Z AD (alMK M c k).1 n) H locs → ∀ ls : Array Slot, lv_has ls 3 [(0, .ref (AD (1 + c))), (1, .int (nI (alMK M c k).2)), (2, .int (nI k))] → W pP l eE ({ frames := 3, cells := 0, slots := 0, locals := 68 } : Room) sS mI aA bB mE cC H locs 0 0 (MQ bB (gQ Z A (none) (wC Z AD (ansF M c) n)) aA sS 0 0 A) (F0 mI 4 ls []) := by
    intro fuQ
    induction fuQ with
    | zero =>
      intro k h1 h2
      exact absurd h2 (by omega)
    | succ fuQ ih4 =>
      intro k hleQ hfuQ H locs hG ls hl
      by_cases hlt : k < szN M (16 + c)
      · have hkle := alK_le (M := M) (c := c) k
        have hmk := (hT.2.2 k hlt).2.1
        refine lv_iload_n hx hb dX0_answerLetters_4 rfl (lv_at hl 2 rfl) ?_
        refine lv_aload_n hx hb dX0_answerLetters_5 rfl (lv_at hl 0 rfl) ?_
        refine gg_get F hG (ci := 0) (v := .ref (AD (42 + (16 + c)))) 2 gcX0 rfl (gC_club hc hn) (by decide) w1_142 rfl dX0_answerLetters_6 ?_
        refine gg_getN F hG (ci := 5) (v := .int (nI (szN M (16 + c)))) 2 gcX5 rfl (gC_tabl (by omega) hn) (by decide) wn_14 (congrArg (fun z => some (Value.int z)) (show (alMK M c k).1 15 (16 + c) 0 = nI (szN M (16 + c)) by rw [al_of (by omega)]; exact hT.1)) dX0_answerLetters_9 ?_
        refine lv_icmp_ge (tgt := 74) hx hb dX0_answerLetters_12 (by decide) (fun h12 => absurd h12 (nI_ge hlt (by omega))) (fun h12 => ?_)
        refine lv_aload_n hx hb dX0_answerLetters_15 rfl (lv_at hl 0 rfl) ?_
        refine gg_get F hG (ci := 0) (v := .ref (AD (42 + (16 + c)))) 2 gcX0 rfl (gC_club hc hn) (by decide) w1_142 rfl dX0_answerLetters_16 ?_
        refine lv_iload_n hx hb dX0_answerLetters_19 rfl (lv_at hl 2 rfl) ?_
        refine lv_iconst (v := 2) hx hb dX0_answerLetters_20 (by decide) ?_
        refine gg_callV F hG (ci := 5) (As := [.int (nI k), .int 2]) (rest := []) (c_X5_at Z l AD ((alMK M c k).1) _ hn (16 + c) k 2 3 90 (by omega) (if_neg (by omega)) (if_neg (by omega)) (by omega) (by omega)) kY_X5_at kV_X5_at (gC_tabl (by omega) hn) rfl rfl w2_39 rfl ⟨rfl, rfl⟩ ⟨(Nat.le_of_ble_eq_true rfl), (Nat.le_of_ble_eq_true rfl)⟩ rfl (Nat.le_of_ble_eq_true rfl) hl.1 ⟨Nat.zero_le _, Nat.zero_le _⟩ dX0_answerLetters_21 rfl (fun H locs hG => ?_)
        refine lv_aload_n hx hb dX0_answerLetters_24 rfl (lv_at hl 0 rfl) ?_
        refine gg_get F hG (ci := 0) (v := .int (((alMK M c k).1) 3 c 0)) 6 gcX0 rfl (gC_club hc hn) (by decide) w1_149 rfl dX0_answerLetters_25 ?_
        refine lv_icmp_le (tgt := 46) hx hb dX0_answerLetters_28 (by decide) (fun h28 => ?_) (fun h28 => ?_)
        · refine lv_aload_n hx hb dX0_answerLetters_46 rfl (lv_at hl 0 rfl) ?_
          refine lv_aload_n hx hb dX0_answerLetters_47 rfl (lv_at hl 0 rfl) ?_
          refine gg_get F hG (ci := 0) (v := .ref (AD (42 + (16 + c)))) 2 gcX0 rfl (gC_club hc hn) (by decide) w1_142 rfl dX0_answerLetters_48 ?_
          refine lv_iload_n hx hb dX0_answerLetters_51 rfl (lv_at hl 2 rfl) ?_
          refine lv_iconst (v := 0) hx hb dX0_answerLetters_52 (by decide) ?_
          refine gg_callV F hG (ci := 5) (As := [.int (nI k), .int 0]) (rest := [.ref (AD (1 + c))]) (c_X5_at Z l AD ((alMK M c k).1) _ hn (16 + c) k 0 3 90 (by omega) (if_neg (by omega)) (if_neg (by omega)) (by omega) (by omega)) kY_X5_at kV_X5_at (gC_tabl (by omega) hn) rfl rfl w2_39 rfl ⟨rfl, rfl⟩ ⟨(Nat.le_of_ble_eq_true rfl), (Nat.le_of_ble_eq_true rfl)⟩ rfl (Nat.le_of_ble_eq_true rfl) hl.1 ⟨Nat.zero_le _, Nat.zero_le _⟩ dX0_answerLetters_53 rfl (fun H locs hG => ?_)
          rw [show (((alMK M c k).1) 16 (16 + c) (k * 3 + 0) : Int32) = nI (lmN M c k) from (show (alMK M c k).1 16 (16 + c) (k * 3 + 0) = nI (lmN M c k) by rw [al_row hc hM.2 k (fun i hi => (hT.2.2 i (by omega)).2.1) (by omega)]; exact (hT.2.2 k hlt).1)]
          refine lv_aload_n hx hb dX0_answerLetters_56 rfl (lv_at hl 0 rfl) ?_
          refine gg_get F hG (ci := 0) (v := .ref (AD (42 + (16 + c)))) 2 gcX0 rfl (gC_club hc hn) (by decide) w1_142 rfl dX0_answerLetters_57 ?_
          refine lv_iload_n hx hb dX0_answerLetters_60 rfl (lv_at hl 2 rfl) ?_
          refine lv_iconst (v := 1) hx hb dX0_answerLetters_61 (by decide) ?_
          refine gg_callV F hG (ci := 5) (As := [.int (nI k), .int 1]) (rest := [.int (nI (lmN M c k)), .ref (AD (1 + c))]) (c_X5_at Z l AD ((alMK M c k).1) _ hn (16 + c) k 1 3 90 (by omega) (if_neg (by omega)) (if_neg (by omega)) (by omega) (by omega)) kY_X5_at kV_X5_at (gC_tabl (by omega) hn) rfl rfl w2_39 rfl ⟨rfl, rfl⟩ ⟨(Nat.le_of_ble_eq_true rfl), (Nat.le_of_ble_eq_true rfl)⟩ rfl (Nat.le_of_ble_eq_true rfl) hl.1 ⟨Nat.zero_le _, Nat.zero_le _⟩ dX0_answerLetters_62 rfl (fun H locs hG => ?_)
          rw [show (((alMK M c k).1) 16 (16 + c) (k * 3 + 1) : Int32) = nI (llN M c k) from (show (alMK M c k).1 16 (16 + c) (k * 3 + 1) = nI (llN M c k) by rw [al_row hc hM.2 k (fun i hi => (hT.2.2 i (by omega)).2.1) (by omega)]; exact (hT.2.2 k hlt).2.2.1)]
          refine gg_callV F hG (ci := 0) (As := [.int (nI (lmN M c k)), .int (nI (llN M c k))]) (rest := []) (c_X0_answer Z l AD ((alMK M c k).1) _ hn c _ (lmN M c k) (llN M c k) hc (show okM (alMK M c k).1 c nm from ⟨by rw [al_of (by omega)]; exact hM.1, hM.2⟩) (hT.2.2 k hlt).2.1 (hT.2.2 k hlt).2.2.2) kY_X0_answer kV_X0_answer (gC_club hc hn) rfl rfl w3_172 rfl ⟨rfl, rfl⟩ ⟨(Nat.le_of_ble_eq_true rfl), (Nat.le_of_ble_eq_true rfl)⟩ rfl (Nat.le_of_ble_eq_true rfl) hl.1 ⟨Nat.zero_le _, Nat.zero_le _⟩ dX0_answerLetters_65 rfl (fun H locs hG => ?_)
          refine lv_iinc (v := nI (k + 1)) (lv' := [(2, .int (nI (k + 1))), (0, .ref (AD (1 + c))), (1, .int (nI (alMK M c k).2))]) hx hb dX0_answerLetters_68 hl (k := 2) rfl (nI_1 _) (by decide) rfl (fun ls hl => ?_)
          refine lv_goto (tgt := 4) hx hb dX0_answerLetters_71 (by decide) ?_
          have e9 : alMK M c (k + 1) = (takF (alMK M c k).1 (8 * c + lmN M c k) (llN M c k), (alMK M c k).2) := if_pos h28
          exact ih4 (k + 1) (by omega) (by omega) _ _ (hG.to (congrArg (fun q => wC Z AD q n) (Eq.symm (congrArg Prod.fst e9)))) ls (by rw [e9]; exact lv_sub hl [1, 2, 0] rfl)
        · refine lv_aload_n hx hb dX0_answerLetters_31 rfl (lv_at hl 0 rfl) ?_
          refine gg_get F hG (ci := 0) (v := .ref (AD (42 + (16 + c)))) 2 gcX0 rfl (gC_club hc hn) (by decide) w1_142 rfl dX0_answerLetters_32 ?_
          refine lv_iload_n hx hb dX0_answerLetters_35 rfl (lv_at hl 2 rfl) ?_
          refine lv_iload_n hx hb dX0_answerLetters_36 rfl (lv_at hl 1 rfl) ?_
          refine gg_callV F hG (ci := 5) (As := [.int (nI k), .int (nI (alMK M c k).2)]) (rest := []) (c_X5_copyRow Z l AD ((alMK M c k).1) _ hn c k ((alMK M c k).2) (by omega) (by omega) (by omega) (alK_le k)) kY_X5_copyRow kV_X5_copyRow (gC_tabl (by omega) hn) rfl rfl w3_167 rfl ⟨rfl, rfl⟩ ⟨(Nat.le_of_ble_eq_true rfl), (Nat.le_of_ble_eq_true rfl)⟩ rfl (Nat.le_of_ble_eq_true rfl) hl.1 ⟨Nat.zero_le _, Nat.zero_le _⟩ dX0_answerLetters_37 rfl (fun H locs hG => ?_)
          refine lv_iinc (v := nI ((alMK M c k).2 + 1)) (lv' := [(1, .int (nI ((alMK M c k).2 + 1))), (0, .ref (AD (1 + c))), (2, .int (nI k))]) hx hb dX0_answerLetters_40 hl (k := 1) rfl (nI_1 _) (by decide) rfl (fun ls hl => ?_)
          refine lv_goto (tgt := 68) hx hb dX0_answerLetters_43 (by decide) ?_
          refine lv_iinc (v := nI (k + 1)) (lv' := [(2, .int (nI (k + 1))), (1, .int (nI ((alMK M c k).2 + 1))), (0, .ref (AD (1 + c)))]) hx hb dX0_answerLetters_68 hl (k := 2) rfl (nI_1 _) (by decide) rfl (fun ls hl => ?_)
          refine lv_goto (tgt := 4) hx hb dX0_answerLetters_71 (by decide) ?_
          have e9 : alMK M c (k + 1) = (cpR (alMK M c k).1 (16 + c) k (alMK M c k).2, (alMK M c k).2 + 1) := if_neg h28
          exact ih4 (k + 1) (by omega) (by omega) _ _ (hG.to (congrArg (fun q => wC Z AD q n) (Eq.symm (congrArg Prod.fst e9)))) ls (by rw [e9]; exact lv_sub hl [2, 1, 0] rfl)
      · have hN : szN M (16 + c) = k := by omega
        subst hN
        refine lv_iload_n hx hb dX0_answerLetters_4 rfl (lv_at hl 2 rfl) ?_
        refine lv_aload_n hx hb dX0_answerLetters_5 rfl (lv_at hl 0 rfl) ?_
        refine gg_get F hG (ci := 0) (v := .ref (AD (42 + (16 + c)))) 2 gcX0 rfl (gC_club hc hn) (by decide) w1_142 rfl dX0_answerLetters_6 ?_
        refine gg_getN F hG (ci := 5) (v := .int (nI (szN M (16 + c)))) 2 gcX5 rfl (gC_tabl (by omega) hn) (by decide) wn_14 (congrArg (fun z => some (Value.int z)) (show (alMK M c (szN M (16 + c))).1 15 (16 + c) 0 = nI (szN M (16 + c)) by rw [al_of (by omega)]; exact hT.1)) dX0_answerLetters_9 ?_
        refine lv_icmp_ge (tgt := 74) hx hb dX0_answerLetters_12 (by decide) (fun h12 => ?_) (fun h12 => absurd (nI_le (Nat.le_refl _) (by omega)) h12)
        refine lv_aload_n hx hb dX0_answerLetters_74 rfl (lv_at hl 0 rfl) ?_
        refine gg_get F hG (ci := 0) (v := .ref (AD (42 + (16 + c)))) 2 gcX0 rfl (gC_club hc hn) (by decide) w1_142 rfl dX0_answerLetters_75 ?_
        refine lv_iload_n hx hb dX0_answerLetters_78 rfl (lv_at hl 1 rfl) ?_
        refine gg_putN F hG (ci := 5) 2 gcX5 rfl (gC_tabl (by omega) hn) (by decide) wn_14 rfl rfl rfl (Nat.le_of_ble_eq_true rfl) (pC_15 (by omega)) dX0_answerLetters_79 (fun H locs hG => ?_)
        have hG : gG Z A sS (wC Z AD (mu (alMK M c (szN M (16 + c))).1 15 (16 + c) 0 (nI (alMK M c (szN M (16 + c))).2)) n) H locs := hG
        exact gg_vret F hG rfl dX0_answerLetters_82
  exact loop4 (szN M (16 + c) + 1) 0 (Nat.zero_le _) (by omega) _ _ hG ls (lv_sub hl [2, 1, 0] rfl)
set_option maxRecDepth 100000 in
set_option maxHeartbeats 4000000 in
theorem c_X0_passHours (Z : gZ) (l : Launch) (AD : Nat → Nat) (M : St) (n : Nat) (hn : 78 ≤ n) (c ns nm h : Nat) (hc : c < 2) (hh : h ≤ 240) (hI : ∀ i, i < h → okA (phM M c ns nm i) c ns nm n) : gM Z l yX0_passHours cX0_passHours 4 (some .int) ({ frames := 5, cells := 0, slots := 0, locals := 116 } : Room) [.ref (AD (1 + c)), .int (nI h)] (wC Z AD M n) (some (.int (phW M c ns nm h))) (wC Z AD (phM M c ns nm h) n) 0 0 := by
  refine gM_of (by decide +kernel) (Nat.le_of_ble_eq_true rfl) ?_
  intro pP eE sS mI aA bB mE cC A F hname hG ls hl
  have hx := F.1
  have hb := F.2.1
  have hl : lv_has ls 4 [(0, .ref (AD (1 + c))), (1, .int (nI h))] := hl
  refine lv_iconst (v := 0) hx hb dX0_passHours_0 (by decide) ?_
  refine lv_istore_n (lv' := [(2, .int 0), (0, .ref (AD (1 + c))), (1, .int (nI h))]) hx hb dX0_passHours_1 rfl hl (by decide) rfl (fun ls hl => ?_)
  refine lv_iconst (v := nI 0) hx hb dX0_passHours_2 rfl ?_
  refine lv_istore_n (lv' := [(3, .int (nI 0)), (2, .int 0), (0, .ref (AD (1 + c))), (1, .int (nI h))]) hx hb dX0_passHours_3 rfl hl (by decide) rfl (fun ls hl => ?_)
  have loop4 : ∀ (fuQ i : Nat), i ≤ h → h + 1 ≤ i + fuQ → ∀ (H : Heap) (locs : List Loc), gG Z A sS (wC Z AD (phM M c ns nm i) n) H locs → ∀ ls : Array Slot, lv_has ls 4 [(0, .ref (AD (1 + c))), (1, .int (nI h)), (2, .int (phW M c ns nm i)), (3, .int (nI i))] → W pP l eE ({ frames := 5, cells := 0, slots := 0, locals := 116 } : Room) sS mI aA bB mE cC H locs 0 0 (MQ bB (gQ Z A (some (.int (phW M c ns nm h))) (wC Z AD (phM M c ns nm h) n)) aA sS 0 0 A) (F0 mI 4 ls []) := by
    intro fuQ
    induction fuQ with
    | zero =>
      intro i h1 h2
      exact absurd h2 (by omega)
    | succ fuQ ih4 =>
      intro i hleQ hfuQ H locs hG ls hl
      by_cases hlt : i < h
      · have hm8 := (hI i hlt).2.1.2
        refine lv_iload_n hx hb dX0_passHours_4 rfl (lv_at hl 3 rfl) ?_
        refine lv_iload_n hx hb dX0_passHours_5 rfl (lv_at hl 1 rfl) ?_
        refine lv_icmp_ge (tgt := 40) hx hb dX0_passHours_6 (by decide) (fun h6 => absurd h6 (nI_ge hlt (by omega))) (fun h6 => ?_)
        refine lv_iload_n hx hb dX0_passHours_9 rfl (lv_at hl 2 rfl) ?_
        refine lv_aload_n hx hb dX0_passHours_10 rfl (lv_at hl 0 rfl) ?_
        refine gg_callV F hG (ci := 0) (As := []) (rest := [.int (phW M c ns nm i)]) (c_X0_writeLines Z l AD (phM M c ns nm i) _ hn c _ _ hc (hI i hlt).1 (hI i hlt).2.1 (hI i hlt).2.2.1) kY_X0_writeLines kV_X0_writeLines (gC_club hc hn) rfl rfl w3_135 rfl ⟨rfl, rfl⟩ ⟨(Nat.le_of_ble_eq_true rfl), (Nat.le_of_ble_eq_true rfl)⟩ rfl (Nat.le_of_ble_eq_true rfl) hl.1 ⟨Nat.zero_le _, Nat.zero_le _⟩ dX0_passHours_11 rfl (fun H locs hG => ?_)
        refine lv_iadd hx hb dX0_passHours_14 ?_
        refine lv_istore_n (lv' := [(2, .int ((phW M c ns nm i) + (wlN (phM M c ns nm i) c ns nm))), (0, .ref (AD (1 + c))), (1, .int (nI h)), (3, .int (nI i))]) hx hb dX0_passHours_15 rfl hl (by decide) rfl (fun ls hl => ?_)
        refine lv_aload_n hx hb dX0_passHours_16 rfl (lv_at hl 1 rfl) ?_
        refine gg_callV F hG (ci := 0) (As := []) (rest := []) (c_X0_wearCrystals Z l AD (wlM (phM M c ns nm i) c ns nm) _ hn c _ hc (wlM_M (hI i hlt).2.1)) kY_X0_wearCrystals kV_X0_wearCrystals (gC_club hc hn) rfl rfl w3_155 rfl ⟨rfl, rfl⟩ ⟨(Nat.le_of_ble_eq_true rfl), (Nat.le_of_ble_eq_true rfl)⟩ rfl (Nat.le_of_ble_eq_true rfl) hl.1 ⟨Nat.zero_le _, Nat.zero_le _⟩ dX0_passHours_17 rfl (fun H locs hG => ?_)
        refine lv_aload_n hx hb dX0_passHours_20 rfl (lv_at hl 1 rfl) ?_
        refine gg_callV F hG (ci := 0) (As := []) (rest := []) (c_X0_answerLetters Z l AD (wearF (wlM (phM M c ns nm i) c ns nm) c nm) _ hn c _ hc (okM_w (hI i hlt).2.1) (okT_w hc hm8 (hI i hlt).2.2.2)) kY_X0_answerLetters kV_X0_answerLetters (gC_club hc hn) rfl rfl w3_163 rfl ⟨rfl, rfl⟩ ⟨(Nat.le_of_ble_eq_true rfl), (Nat.le_of_ble_eq_true rfl)⟩ rfl (Nat.le_of_ble_eq_true rfl) hl.1 ⟨Nat.zero_le _, Nat.zero_le _⟩ dX0_passHours_21 rfl (fun H locs hG => ?_)
        refine lv_aload_n hx hb dX0_passHours_24 rfl (lv_at hl 1 rfl) ?_
        refine lv_dup hx hb dX0_passHours_25 rfl ?_
        refine gg_get F hG (ci := 0) (v := .int ((ansF (wearF (wlM (phM M c ns nm i) c ns nm) c nm) c) 3 c 0)) 6 gcX0 rfl (gC_club hc hn) (by decide) w1_149 rfl dX0_passHours_26 ?_
        refine lv_iconst (v := 1) hx hb dX0_passHours_29 (by decide) ?_
        refine lv_iadd hx hb dX0_passHours_30 ?_
        refine gg_put F hG (ci := 0) 6 gcX0 rfl (gC_club hc hn) (by decide) w1_149 rfl rfl rfl (Nat.le_of_ble_eq_true rfl) (pC_3 hc) dX0_passHours_31 (fun H locs hG => ?_)
        have hG : gG Z A sS (wC Z AD (mu (ansF (wearF (wlM (phM M c ns nm i) c ns nm) c nm) c) 3 c 0 (((ansF (wearF (wlM (phM M c ns nm i) c ns nm) c nm) c) 3 c 0) + 1)) n) H locs := hG
        refine lv_iinc (v := nI (i + 1)) (lv' := [(3, .int (nI (i + 1))), (2, .int ((phW M c ns nm i) + (wlN (phM M c ns nm i) c ns nm))), (0, .ref (AD (1 + c))), (1, .int (nI h))]) hx hb dX0_passHours_34 hl (k := 3) rfl (nI_1 _) (by decide) rfl (fun ls hl => ?_)
        refine lv_goto (tgt := 4) hx hb dX0_passHours_37 (by decide) ?_
        exact ih4 (i + 1) (by omega) (by omega) _ _ hG ls (lv_sub hl [2, 3, 1, 0] rfl)
      · have hN : h = i := by omega
        subst hN
        refine lv_iload_n hx hb dX0_passHours_4 rfl (lv_at hl 3 rfl) ?_
        refine lv_iload_n hx hb dX0_passHours_5 rfl (lv_at hl 1 rfl) ?_
        refine lv_icmp_ge (tgt := 40) hx hb dX0_passHours_6 (by decide) (fun h6 => ?_) (fun h6 => absurd (nI_le (Nat.le_refl _) (by omega)) h6)
        refine lv_iload_n hx hb dX0_passHours_40 rfl (lv_at hl 2 rfl) ?_
        exact gg_iret F hG rfl rfl rfl dX0_passHours_41
  exact loop4 (h + 1) 0 (Nat.zero_le _) (by omega) _ _ hG ls (lv_sub hl [2, 3, 1, 0] rfl)
set_option maxRecDepth 100000 in
set_option maxHeartbeats 4000000 in
theorem c_X0_hasLetterOf (Z : gZ) (l : Launch) (AD : Nat → Nat) (M : St) (n : Nat) (hn : 78 ≤ n) (c q : Nat) (hc : c < 2) (hq : M 15 (16 + c) 0 = nI q) (hq2 : q ≤ 30) (x y : Int32) : gM Z l yX0_hasLetterOf cX0_hasLetterOf 4 (some .boolean) ({ frames := 1, cells := 0, slots := 0, locals := 23 } : Room) [.ref (AD (1 + c)), .int x, .int y] (wC Z AD M n) (some (.int (b2 (hlP M c x y q)))) (wC Z AD M n) 0 0 := by
  refine gM_of (by decide +kernel) (Nat.le_of_ble_eq_true rfl) ?_
  intro pP eE sS mI aA bB mE cC A F hname hG ls hl
  have hx := F.1
  have hb := F.2.1
  have hl : lv_has ls 4 [(0, .ref (AD (1 + c))), (1, .int x), (2, .int y)] := hl
  refine lv_iconst (v := nI 0) hx hb dX0_hasLetterOf_0 rfl ?_
  refine lv_istore_n (lv' := [(3, .int (nI 0)), (0, .ref (AD (1 + c))), (1, .int x), (2, .int y)]) hx hb dX0_hasLetterOf_1 rfl hl (by decide) rfl (fun ls hl => ?_)
  have loop2 : ∀ (fuQ i : Nat), i ≤ q → q + 1 ≤ i + fuQ → (∀ k, k < i → ¬ (M 16 (16 + c) (k * 3 + 0) = x ∧ M 16 (16 + c) (k * 3 + 1) = y)) → ∀ (H : Heap) (locs : List Loc), gG Z A sS (wC Z AD M n) H locs → ∀ ls : Array Slot, lv_has ls 4 [(0, .ref (AD (1 + c))), (1, .int x), (2, .int y), (3, .int (nI i))] → W pP l eE ({ frames := 1, cells := 0, slots := 0, locals := 23 } : Room) sS mI aA bB mE cC H locs 0 0 (MQ bB (gQ Z A (some (.int (b2 (hlP M c x y q)))) (wC Z AD M n)) aA sS 0 0 A) (F0 mI 2 ls []) := by
    intro fuQ
    induction fuQ with
    | zero =>
      intro i h1 h2
      exact absurd h2 (by omega)
    | succ fuQ ih2 =>
      intro i hleQ hfuQ hno H locs hG ls hl
      by_cases hlt : i < q
      · refine lv_iload_n hx hb dX0_hasLetterOf_2 rfl (lv_at hl 3 rfl) ?_
        refine lv_aload_n hx hb dX0_hasLetterOf_3 rfl (lv_at hl 0 rfl) ?_
        refine gg_get F hG (ci := 0) (v := .ref (AD (42 + (16 + c)))) 2 gcX0 rfl (gC_club hc hn) (by decide) w1_142 rfl dX0_hasLetterOf_4 ?_
        refine gg_getN F hG (ci := 5) (v := .int (nI q)) 2 gcX5 rfl (gC_tabl (by omega) hn) (by decide) wn_14 (congrArg (fun z => some (Value.int z)) hq) dX0_hasLetterOf_7 ?_
        refine lv_icmp_ge (tgt := 47) hx hb dX0_hasLetterOf_10 (by decide) (fun h10 => absurd h10 (nI_ge hlt (by omega))) (fun h10 => ?_)
        refine lv_aload_n hx hb dX0_hasLetterOf_13 rfl (lv_at hl 0 rfl) ?_
        refine gg_get F hG (ci := 0) (v := .ref (AD (42 + (16 + c)))) 2 gcX0 rfl (gC_club hc hn) (by decide) w1_142 rfl dX0_hasLetterOf_14 ?_
        refine lv_iload_n hx hb dX0_hasLetterOf_17 rfl (lv_at hl 3 rfl) ?_
        refine lv_iconst (v := 0) hx hb dX0_hasLetterOf_18 (by decide) ?_
        refine gg_callV F hG (ci := 5) (As := [.int (nI i), .int 0]) (rest := []) (c_X5_at Z l AD M _ hn (16 + c) i 0 3 90 (by omega) (if_neg (by omega)) (if_neg (by omega)) (by omega) (by omega)) kY_X5_at kV_X5_at (gC_tabl (by omega) hn) rfl rfl w2_39 rfl ⟨rfl, rfl⟩ ⟨(Nat.le_of_ble_eq_true rfl), (Nat.le_of_ble_eq_true rfl)⟩ rfl (Nat.le_of_ble_eq_true rfl) hl.1 ⟨Nat.zero_le _, Nat.zero_le _⟩ dX0_hasLetterOf_19 rfl (fun H locs hG => ?_)
        refine lv_iload_n hx hb dX0_hasLetterOf_22 rfl (lv_at hl 1 rfl) ?_
        refine lv_icmp_ne (tgt := 41) hx hb dX0_hasLetterOf_23 (by decide) (fun h23 => ?_) (fun h23 => ?_)
        · refine lv_iinc (v := nI (i + 1)) (lv' := [(3, .int (nI (i + 1))), (0, .ref (AD (1 + c))), (1, .int x), (2, .int y)]) hx hb dX0_hasLetterOf_41 hl (k := 3) rfl (nI_1 _) (by decide) rfl (fun ls hl => ?_)
          refine lv_goto (tgt := 2) hx hb dX0_hasLetterOf_44 (by decide) ?_
          exact ih2 (i + 1) (by omega) (by omega) (lt_s hno (fun z => h23 z.1)) _ _ hG ls (lv_sub hl [1, 2, 3, 0] rfl)
        · refine lv_aload_n hx hb dX0_hasLetterOf_26 rfl (lv_at hl 0 rfl) ?_
          refine gg_get F hG (ci := 0) (v := .ref (AD (42 + (16 + c)))) 2 gcX0 rfl (gC_club hc hn) (by decide) w1_142 rfl dX0_hasLetterOf_27 ?_
          refine lv_iload_n hx hb dX0_hasLetterOf_30 rfl (lv_at hl 3 rfl) ?_
          refine lv_iconst (v := 1) hx hb dX0_hasLetterOf_31 (by decide) ?_
          refine gg_callV F hG (ci := 5) (As := [.int (nI i), .int 1]) (rest := []) (c_X5_at Z l AD M _ hn (16 + c) i 1 3 90 (by omega) (if_neg (by omega)) (if_neg (by omega)) (by omega) (by omega)) kY_X5_at kV_X5_at (gC_tabl (by omega) hn) rfl rfl w2_39 rfl ⟨rfl, rfl⟩ ⟨(Nat.le_of_ble_eq_true rfl), (Nat.le_of_ble_eq_true rfl)⟩ rfl (Nat.le_of_ble_eq_true rfl) hl.1 ⟨Nat.zero_le _, Nat.zero_le _⟩ dX0_hasLetterOf_32 rfl (fun H locs hG => ?_)
          refine lv_iload_n hx hb dX0_hasLetterOf_35 rfl (lv_at hl 2 rfl) ?_
          refine lv_icmp_ne (tgt := 41) hx hb dX0_hasLetterOf_36 (by decide) (fun h36 => ?_) (fun h36 => ?_)
          · refine lv_iinc (v := nI (i + 1)) (lv' := [(3, .int (nI (i + 1))), (0, .ref (AD (1 + c))), (1, .int x), (2, .int y)]) hx hb dX0_hasLetterOf_41 hl (k := 3) rfl (nI_1 _) (by decide) rfl (fun ls hl => ?_)
            refine lv_goto (tgt := 2) hx hb dX0_hasLetterOf_44 (by decide) ?_
            exact ih2 (i + 1) (by omega) (by omega) (lt_s hno (fun z => h36 z.2)) _ _ hG ls (lv_sub hl [1, 2, 3, 0] rfl)
          · refine lv_iconst (v := 1) hx hb dX0_hasLetterOf_39 (by decide) ?_
            exact gg_iret F hG rfl ((b2_t ⟨i, hlt, h23, h36⟩).symm) rfl dX0_hasLetterOf_40
      · have hN : q = i := by omega
        subst hN
        refine lv_iload_n hx hb dX0_hasLetterOf_2 rfl (lv_at hl 3 rfl) ?_
        refine lv_aload_n hx hb dX0_hasLetterOf_3 rfl (lv_at hl 0 rfl) ?_
        refine gg_get F hG (ci := 0) (v := .ref (AD (42 + (16 + c)))) 2 gcX0 rfl (gC_club hc hn) (by decide) w1_142 rfl dX0_hasLetterOf_4 ?_
        refine gg_getN F hG (ci := 5) (v := .int (nI q)) 2 gcX5 rfl (gC_tabl (by omega) hn) (by decide) wn_14 (congrArg (fun z => some (Value.int z)) hq) dX0_hasLetterOf_7 ?_
        refine lv_icmp_ge (tgt := 47) hx hb dX0_hasLetterOf_10 (by decide) (fun h10 => ?_) (fun h10 => absurd (nI_le (Nat.le_refl _) (by omega)) h10)
        refine lv_iconst (v := 0) hx hb dX0_hasLetterOf_47 (by decide) ?_
        exact gg_iret F hG rfl ((b2_f (fun ⟨k, hk, z1, z2⟩ => hno k hk ⟨z1, z2⟩)).symm) rfl dX0_hasLetterOf_48
  exact loop2 (q + 1) 0 (Nat.zero_le _) (by omega) lt_0 _ _ hG ls (lv_sub hl [1, 2, 3, 0] rfl)
set_option maxRecDepth 100000 in
set_option maxHeartbeats 4000000 in
theorem c_X0_send (Z : gZ) (l : Launch) (AD : Nat → Nat) (M : St) (n : Nat) (hn : 78 ≤ n) (c ns nm i ln k q : Nat) (hc : c < 2) (hS : okS M c ns n) (hM : okM M c nm) (hq : M 15 (16 + c) 0 = nI q) (hq2 : q < 30) (hi : i < nm) (hln : ln < 40) (hk : k < ns) (hst : M 16 (8 * c + i) (ln * 4 + 1) = nI k) : gM Z l yX0_send cX0_send 7 (some .int) ({ frames := 1, cells := 0, slots := 0, locals := 24 } : Room) [.ref (AD (1 + c)), .int (nI i), .int (nI ln)] (wC Z AD M n) (some (.int (senD M c k))) (wC Z AD (senF M c i ln k q) n) 0 0 := by
  refine gM_of (by decide +kernel) (Nat.le_of_ble_eq_true rfl) ?_
  intro pP eE sS mI aA bB mE cC A F hname hG ls hl
  have hx := F.1
  have hb := F.2.1
  have hl : lv_has ls 7 [(0, .ref (AD (1 + c))), (1, .int (nI i)), (2, .int (nI ln))] := hl
  have hns2 := hS.2.1
  have hns3 := hS.2.2.1
  have hnm2 := hM.2
  refine lv_aload_n hx hb dX0_send_0 rfl (lv_at hl 0 rfl) ?_
  refine lv_iload_n hx hb dX0_send_1 rfl (lv_at hl 1 rfl) ?_
  refine gg_callV F hG (ci := 0) (As := [.int (nI i)]) (rest := []) (c_X0_memberAt Z l AD M _ hn c hc _ i hM hi) kY_X0_memberAt kV_X0_memberAt (gC_club hc hn) rfl rfl w1_186 rfl ⟨rfl, rfl⟩ ⟨(Nat.le_of_ble_eq_true rfl), (Nat.le_of_ble_eq_true rfl)⟩ rfl (Nat.le_of_ble_eq_true rfl) hl.1 ⟨Nat.zero_le _, Nat.zero_le _⟩ dX0_send_2 rfl (fun H locs hG => ?_)
  refine lv_astore_n (lv' := [(3, .ref (AD (26 + (8 * c + i)))), (0, .ref (AD (1 + c))), (1, .int (nI i)), (2, .int (nI ln))]) hx hb dX0_send_5 rfl hl (by decide) rfl (fun ls hl => ?_)
  refine lv_aload_n hx hb dX0_send_6 rfl (lv_at hl 0 rfl) ?_
  refine lv_ifnonnull (tgt := 14) hx hb dX0_send_7 (by decide) ?_
  refine lv_aload_n hx hb dX0_send_14 rfl (lv_at hl 1 rfl) ?_
  refine lv_aload_n hx hb dX0_send_15 rfl (lv_at hl 0 rfl) ?_
  refine gg_getN F hG (ci := 3) (v := .ref (AD (42 + (8 * c + i)))) 1 gcX3 rfl (gC_memb (by omega) hn) (by decide) wn_18 rfl dX0_send_16 ?_
  refine lv_iload_n hx hb dX0_send_19 rfl (lv_at hl 3 rfl) ?_
  refine lv_iconst (v := 1) hx hb dX0_send_20 (by decide) ?_
  refine gg_callV F hG (ci := 5) (As := [.int (nI ln), .int 1]) (rest := [.ref (AD (1 + c))]) (c_X5_at Z l AD M _ hn (8 * c + i) ln 1 4 160 (by omega) (if_pos (by omega)) (if_pos (by omega)) (by omega) (by omega)) kY_X5_at kV_X5_at (gC_tabl (by omega) hn) rfl rfl w2_39 rfl ⟨rfl, rfl⟩ ⟨(Nat.le_of_ble_eq_true rfl), (Nat.le_of_ble_eq_true rfl)⟩ rfl (Nat.le_of_ble_eq_true rfl) hl.1 ⟨Nat.zero_le _, Nat.zero_le _⟩ dX0_send_21 rfl (fun H locs hG => ?_)
  rw [show (M 16 (8 * c + i) (ln * 4 + 1) : Int32) = nI k from hst]
  refine gg_callV F hG (ci := 0) (As := [.int (nI k)]) (rest := []) (c_X0_stationAt Z l AD M _ hn c hc _ k hS hk) kY_X0_stationAt kV_X0_stationAt (gC_club hc hn) rfl rfl w1_224 rfl ⟨rfl, rfl⟩ ⟨(Nat.le_of_ble_eq_true rfl), (Nat.le_of_ble_eq_true rfl)⟩ rfl (Nat.le_of_ble_eq_true rfl) hl.1 ⟨Nat.zero_le _, Nat.zero_le _⟩ dX0_send_24 rfl (fun H locs hG => ?_)
  refine lv_astore (lv' := [(4, .ref (AD (78 + k))), (3, .ref (AD (26 + (8 * c + i)))), (0, .ref (AD (1 + c))), (1, .int (nI i)), (2, .int (nI ln))]) hx hb dX0_send_27 hl (by decide) rfl (fun ls hl => ?_)
  refine lv_aload hx hb dX0_send_29 (lv_at hl 0 rfl) ?_
  refine lv_ifnonnull (tgt := 41) hx hb dX0_send_31 (by decide) ?_
  refine lv_aload_n hx hb dX0_send_41 rfl (lv_at hl 2 rfl) ?_
  refine gg_get F hG (ci := 0) (v := .int (M 3 c 0)) 6 gcX0 rfl (gC_club hc hn) (by decide) w1_149 rfl dX0_send_42 ?_
  refine lv_aload hx hb dX0_send_45 (lv_at hl 0 rfl) ?_
  refine gg_callV F hG (ci := 4) (As := []) (rest := [.int (M 3 c 0)]) (c_X4_daysOfMail Z l AD M _ hn k (by omega)) kY_X4_daysOfMail kV_X4_daysOfMail (gC_stat (by omega)) rfl rfl w3_115 rfl ⟨rfl, rfl⟩ ⟨(Nat.le_of_ble_eq_true rfl), (Nat.le_of_ble_eq_true rfl)⟩ rfl (Nat.le_of_ble_eq_true rfl) hl.1 ⟨Nat.zero_le _, Nat.zero_le _⟩ dX0_send_47 rfl (fun H locs hG => ?_)
  refine lv_bipush (v := 24) hx hb dX0_send_50 (by decide) ?_
  refine lv_imul hx hb dX0_send_52 ?_
  refine lv_iadd hx hb dX0_send_53 ?_
  refine lv_istore (lv' := [(5, .int ((M 3 c 0) + ((M 0 k 2 / 10 + 2) * 24))), (4, .ref (AD (78 + k))), (3, .ref (AD (26 + (8 * c + i)))), (0, .ref (AD (1 + c))), (1, .int (nI i)), (2, .int (nI ln))]) hx hb dX0_send_54 hl (by decide) rfl (fun ls hl => ?_)
  refine lv_aload_n hx hb dX0_send_56 rfl (lv_at hl 3 rfl) ?_
  refine gg_get F hG (ci := 0) (v := .ref (AD (42 + (16 + c)))) 2 gcX0 rfl (gC_club hc hn) (by decide) w1_142 rfl dX0_send_57 ?_
  refine gg_getN F hG (ci := 5) (v := .int (nI q)) 2 gcX5 rfl (gC_tabl (by omega) hn) (by decide) wn_14 (congrArg (fun z => some (Value.int z)) hq) dX0_send_60 ?_
  refine lv_istore (lv' := [(6, .int (nI q)), (5, .int ((M 3 c 0) + ((M 0 k 2 / 10 + 2) * 24))), (4, .ref (AD (78 + k))), (3, .ref (AD (26 + (8 * c + i)))), (0, .ref (AD (1 + c))), (1, .int (nI i)), (2, .int (nI ln))]) hx hb dX0_send_63 hl (by decide) rfl (fun ls hl => ?_)
  refine lv_aload_n hx hb dX0_send_65 rfl (lv_at hl 4 rfl) ?_
  refine gg_get F hG (ci := 0) (v := .ref (AD (42 + (16 + c)))) 2 gcX0 rfl (gC_club hc hn) (by decide) w1_142 rfl dX0_send_66 ?_
  refine lv_iload hx hb dX0_send_69 (lv_at hl 0 rfl) ?_
  refine lv_iconst (v := 0) hx hb dX0_send_71 (by decide) ?_
  refine lv_iload_n hx hb dX0_send_72 rfl (lv_at hl 5 rfl) ?_
  refine gg_callV F hG (ci := 5) (As := [.int (nI q), .int 0, .int (nI i)]) (rest := []) (c_X5_put Z l AD M _ hn (16 + c) q 0 3 90 (by omega) (if_neg (by omega)) (if_neg (by omega)) (by omega) (by omega) (nI i)) kY_X5_put kV_X5_put (gC_tabl (by omega) hn) rfl rfl w3_119 rfl ⟨rfl, rfl⟩ ⟨(Nat.le_of_ble_eq_true rfl), (Nat.le_of_ble_eq_true rfl)⟩ rfl (Nat.le_of_ble_eq_true rfl) hl.1 ⟨Nat.zero_le _, Nat.zero_le _⟩ dX0_send_73 rfl (fun H locs hG => ?_)
  refine lv_aload_n hx hb dX0_send_76 rfl (lv_at hl 4 rfl) ?_
  refine gg_get F hG (ci := 0) (v := .ref (AD (42 + (16 + c)))) 2 gcX0 rfl (gC_club hc hn) (by decide) w1_142 rfl dX0_send_77 ?_
  refine lv_iload hx hb dX0_send_80 (lv_at hl 0 rfl) ?_
  refine lv_iconst (v := 1) hx hb dX0_send_82 (by decide) ?_
  refine lv_iload_n hx hb dX0_send_83 rfl (lv_at hl 6 rfl) ?_
  refine gg_callV F hG (ci := 5) (As := [.int (nI q), .int 1, .int (nI ln)]) (rest := []) (c_X5_put Z l AD (mu M 16 (16 + c) (q * 3 + 0) (nI i)) _ hn (16 + c) q 1 3 90 (by omega) (if_neg (by omega)) (if_neg (by omega)) (by omega) (by omega) (nI ln)) kY_X5_put kV_X5_put (gC_tabl (by omega) hn) rfl rfl w3_119 rfl ⟨rfl, rfl⟩ ⟨(Nat.le_of_ble_eq_true rfl), (Nat.le_of_ble_eq_true rfl)⟩ rfl (Nat.le_of_ble_eq_true rfl) hl.1 ⟨Nat.zero_le _, Nat.zero_le _⟩ dX0_send_84 rfl (fun H locs hG => ?_)
  refine lv_aload_n hx hb dX0_send_87 rfl (lv_at hl 4 rfl) ?_
  refine gg_get F hG (ci := 0) (v := .ref (AD (42 + (16 + c)))) 2 gcX0 rfl (gC_club hc hn) (by decide) w1_142 rfl dX0_send_88 ?_
  refine lv_iload hx hb dX0_send_91 (lv_at hl 0 rfl) ?_
  refine lv_iconst (v := 2) hx hb dX0_send_93 (by decide) ?_
  refine lv_iload hx hb dX0_send_94 (lv_at hl 1 rfl) ?_
  refine gg_callV F hG (ci := 5) (As := [.int (nI q), .int 2, .int ((M 3 c 0) + ((M 0 k 2 / 10 + 2) * 24))]) (rest := []) (c_X5_put Z l AD (mu (mu M 16 (16 + c) (q * 3 + 0) (nI i)) 16 (16 + c) (q * 3 + 1) (nI ln)) _ hn (16 + c) q 2 3 90 (by omega) (if_neg (by omega)) (if_neg (by omega)) (by omega) (by omega) ((M 3 c 0) + ((M 0 k 2 / 10 + 2) * 24))) kY_X5_put kV_X5_put (gC_tabl (by omega) hn) rfl rfl w3_119 rfl ⟨rfl, rfl⟩ ⟨(Nat.le_of_ble_eq_true rfl), (Nat.le_of_ble_eq_true rfl)⟩ rfl (Nat.le_of_ble_eq_true rfl) hl.1 ⟨Nat.zero_le _, Nat.zero_le _⟩ dX0_send_96 rfl (fun H locs hG => ?_)
  refine lv_aload_n hx hb dX0_send_99 rfl (lv_at hl 4 rfl) ?_
  refine gg_get F hG (ci := 0) (v := .ref (AD (42 + (16 + c)))) 2 gcX0 rfl (gC_club hc hn) (by decide) w1_142 rfl dX0_send_100 ?_
  refine lv_dup hx hb dX0_send_103 rfl ?_
  refine gg_getN F hG (ci := 5) (v := .int (nI q)) 2 gcX5 rfl (gC_tabl (by omega) hn) (by decide) wn_14 (congrArg (fun z => some (Value.int z)) hq) dX0_send_104 ?_
  refine lv_iconst (v := 1) hx hb dX0_send_107 (by decide) ?_
  refine lv_iadd hx hb dX0_send_108 ?_
  rw [show ((nI q) + 1 : Int32) = nI (q + 1) from nI_1 _]
  refine gg_putN F hG (ci := 5) 2 gcX5 rfl (gC_tabl (by omega) hn) (by decide) wn_14 rfl rfl rfl (Nat.le_of_ble_eq_true rfl) (pC_15 (by omega)) dX0_send_109 (fun H locs hG => ?_)
  have hG : gG Z A sS (wC Z AD (mu (mu (mu (mu M 16 (16 + c) (q * 3 + 0) (nI i)) 16 (16 + c) (q * 3 + 1) (nI ln)) 16 (16 + c) (q * 3 + 2) ((M 3 c 0) + ((M 0 k 2 / 10 + 2) * 24))) 15 (16 + c) 0 (nI (q + 1))) n) H locs := hG
  refine lv_iload hx hb dX0_send_112 (lv_at hl 1 rfl) ?_
  exact gg_iret F hG rfl rfl rfl dX0_send_114
