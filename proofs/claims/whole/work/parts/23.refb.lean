/-! the reference's hours -/
section GROWS12
variable {p : Program} {l : Launch} {e : Env} {R : Room} {s : State} {m : MethodId} {args : Array Value} {below : List Frame} {meth : Method} {c : Code} {H : Heap} {locs : List Loc} {cells slots : Nat} {Q : State → Prop}
variable {Z : gZ} {A : Nat → Prop} {ws ws' : va_W} {cc : ByteArray} {nL pc : Nat} {own : String} {ret : Option FieldType} {ls : Array Slot} {rest : List Value}
theorem gg_copyi (F : gF Z p m s args meth c cc nL own ret) (G : gG Z A s ws H locs) (hls : ls.size = nL) {index : Nat} (hlink : Cond.methodLink own index ⟨"java/lang/System", "arraycopy", "(Ljava/lang/Object;ILjava/lang/Object;II)V"⟩ ∈ gW) {a a0 q0 q1 n0 n1 : Nat} {f g : Nat → Int32} (sp dp n : Nat) {spx dpx nx : Int32} (he0 : ws[q0]? = some (a0, .inl (Z.2.1, n0, .inl f))) (he1 : ws[q1]? = some (a, .inl (Z.2.1, n1, .inl g))) (e1 : spx = nI sp) (e2 : dpx = nI dp) (e3 : nx = nI n) (h1 : sp + n ≤ n0) (h2 : dp + n ≤ n1) (h3 : n0 < 2147483648) (h4 : n1 < 2147483648)
    (hw : ws.set q1 (a, .inl (Z.2.1, n1, .inl (va_cpy f g sp dp n))) = ws') (hfr : 1 ≤ R.frames) (hlo : (rest.map fun v => v.category).sum + (nativeFrameWords "java/lang/System" "arraycopy" 5 + 11) ≤ R.locals) (hdg : decode cc pc = .ok (.invokestatic index, 3))
    (kk : ∀ (H1 : Heap) (locs1 : List Loc), gG Z A s ws' H1 locs1 → W p l e R s m args below meth c H1 locs1 cells slots Q (F0 m (pc + 3) ls rest)) : W p l e R s m args below meth c H locs cells slots Q (F0 m pc ls (.int nx :: .int dpx :: .ref a :: .int spx :: .ref a0 :: rest)) := by
  subst e1; subst e2; subst e3
  have k1 : (nI sp).toNatClampNeg = sp := nI_clamp (by omega)
  have k2 : (nI dp).toNatClampNeg = dp := nI_clamp (by omega)
  have k3 : (nI n).toNatClampNeg = n := nI_clamp (by omega)
  refine va_copyi F.1 F.2.1 (F.2.2.1.trans hls.symm) F.2.2.2.1 (F.2.2.2.2.1 _ hlink) (F.2.2.2.2.1 _ w4_127) (F.2.2.2.2.1 _ w4_126) (F.2.2.2.2.1 _ w1_16) F.2.2.2.2.2.1.1 G.1 G.2.1 G.2.2.1 q0 q1 0 0 he0 he1 rfl rfl rfl (nI_pos (by omega)) (nI_pos (by omega)) (nI_pos (by omega)) (by rw [k1, k3]; exact h1) (by rw [k2, k3]; exact h2) (fun _ _ => rfl) hfr hlo hdg ?_
  rw [k1, k2, k3]
  exact fun H1 locs1 g1 g2 g3 => kk H1 locs1 ⟨hw ▸ g1, hw ▸ g2, g3, G.2.2.2⟩
end GROWS12
/-- row f of state c takes the first L numbers of state e's -/
def cyR (M : St) (f c e L : Nat) : St := fun g => if g = f then (fun a => if a = c then va_cpy (M f e) (M f c) 0 0 L else M g a) else M g
theorem cyR_s {M : St} {f c e L : Nat} : cyR M f c e L f c = va_cpy (M f e) (M f c) 0 0 L := by simp [cyR]
theorem cyR_of {M : St} {f c e L g a : Nat} (h : ¬ (g = f ∧ a = c)) : cyR M f c e L g a = M g a := by
  unfold cyR
  by_cases hg : g = f
  · subst hg
    rw [if_pos rfl, if_neg (fun q => h ⟨rfl, q⟩)]
  · rw [if_neg hg]
theorem wR_setG {Z : gZ} {AD : Nat → Nat} {M M' : St} {n : Nat} (f i : Nat) (h : ∀ g a, ¬ (g = f ∧ a = i) → M' g a = M g a) : (wR Z AD M n).set (owR f i) (AD (owR f i), ctR Z AD M' (owR f i)) = wR Z AD M' n :=
  wm_set (fun b hb => ctR_ext (fun g a hg => h g a (fun ⟨q1, q2⟩ => hb (by rw [← hg, q1, q2]))))
theorem pyR_12 {Z : gZ} {AD : Nat → Nat} {M : St} {n c e : Nat} (hc : c < 2) : (wR Z AD M n).set (8 + c) (AD (8 + c), .inl (Z.2.1, 8, .inl (va_cpy (M 12 e) (M 12 c) 0 0 8))) = wR Z AD (cyR M 12 c e 8) n := by
  have h : (wR Z AD M n).set (8 + c) (AD (8 + c), ctR Z AD (cyR M 12 c e 8) (8 + c)) = wR Z AD (cyR M 12 c e 8) n := wR_setG 12 c (fun g a hg => cyR_of hg)
  rw [ctR_crys hc, cyR_s] at h
  exact h
theorem pyR_13 {Z : gZ} {AD : Nat → Nat} {M : St} {n c e : Nat} (hc : c < 2) : (wR Z AD M n).set (10 + c) (AD (10 + c), .inl (Z.2.1, 8, .inl (va_cpy (M 13 e) (M 13 c) 0 0 8))) = wR Z AD (cyR M 13 c e 8) n := by
  have h : (wR Z AD M n).set (10 + c) (AD (10 + c), ctR Z AD (cyR M 13 c e 8) (10 + c)) = wR Z AD (cyR M 13 c e 8) n := wR_setG 13 c (fun g a hg => cyR_of hg)
  rw [ctR_lines hc, cyR_s] at h
  exact h
theorem pyR_14 {Z : gZ} {AD : Nat → Nat} {M : St} {n c e : Nat} (hc : c < 2) : (wR Z AD M n).set (12 + c) (AD (12 + c), .inl (Z.2.1, 1280, .inl (va_cpy (M 14 e) (M 14 c) 0 0 1280))) = wR Z AD (cyR M 14 c e 1280) n := by
  have h : (wR Z AD M n).set (12 + c) (AD (12 + c), ctR Z AD (cyR M 14 c e 1280) (12 + c)) = wR Z AD (cyR M 14 c e 1280) n := wR_setG 14 c (fun g a hg => cyR_of hg)
  rw [ctR_log hc, cyR_s] at h
  exact h
theorem pyR_15 {Z : gZ} {AD : Nat → Nat} {M : St} {n c e : Nat} (hc : c < 2) : (wR Z AD M n).set (14 + c) (AD (14 + c), .inl (Z.2.1, 60, .inl (va_cpy (M 15 e) (M 15 c) 0 0 60))) = wR Z AD (cyR M 15 c e 60) n := by
  have h : (wR Z AD M n).set (14 + c) (AD (14 + c), ctR Z AD (cyR M 15 c e 60) (14 + c)) = wR Z AD (cyR M 15 c e 60) n := wR_setG 15 c (fun g a hg => cyR_of hg)
  rw [ctR_mail hc, cyR_s] at h
  exact h
def beR (M : St) (c e : Nat) : St := cyR (cyR (cyR (cyR (mu (mu (mu (mu M 8 c 0 (M 8 e 0)) 9 c 0 (M 9 e 0)) 10 c 0 (M 10 e 0)) 11 c 0 (M 11 e 0)) 12 c e 8) 13 c e 8) 14 c e 1280) 15 c e 60
/-- a line is written -/
def liR (M : St) (c i L k : Nat) : St := mu (mu (mu (mu (mu (mu M 14 c (4 * (40 * i + L)) (M 8 c 0)) 14 c (4 * (40 * i + L) + 1) (nI k)) 14 c (4 * (40 * i + L) + 2) (rcR M i (M 8 c 0) (M 4 0 i) (M 5 0 i) (M 12 c i) k)) 14 c (4 * (40 * i + L) + 3) 0) 13 c i (nI (L + 1))) 10 c 0 (M 10 c 0 + 1)
noncomputable def hsR (M : St) (c i L ns : Nat) (on : Int32) : St :=
  if heR M i (M 8 c 0) (M 4 0 i) (M 5 0 i) (M 12 c i) on ns < 0 then M else if b2 (inR M c i (heR M i (M 8 c 0) (M 4 0 i) (M 5 0 i) (M 12 c i) on ns) L) = 0 then liR M c i L (heR M i (M 8 c 0) (M 4 0 i) (M 5 0 i) (M 12 c i) on ns).toNatClampNeg else M
noncomputable def hrS (M : St) (c ns : Nat) (on : Int32) : Nat → St
  | 0 => M
  | i + 1 => if hrS M c ns on i 7 0 i = 0 then hrS M c ns on i else if nI (szR M c i) = 40 then hrS M c ns on i else hsR (hrS M c ns on i) c i (szR M c i) ns on
theorem stR_1 {q : rQ} {num s : Int32} : (stR q num s).1 = q.1 ∨ (stR q num s).1 = num := by
  unfold stR
  split
  · exact Or.inl rfl
  · split
    · exact Or.inl rfl
    · exact Or.inr rfl
theorem foR_k {f : Nat → Int32} : ∀ n, (foR f n).1 = -1 ∨ ∃ k, k < n ∧ (foR f n).1 = nI k
  | 0 => Or.inl rfl
  | n + 1 => by
    have ih : (foR f n).1 = -1 ∨ ∃ k, k < n + 1 ∧ (foR f n).1 = nI k := (foR_k n).imp id (fun ⟨k, h, e⟩ => ⟨k, by omega, e⟩)
    show (stR (foR f n) (nI n) (f n)).1 = -1 ∨ ∃ k, k < n + 1 ∧ (stR (foR f n) (nI n) (f n)).1 = nI k
    rcases stR_1 (q := foR f n) (num := nI n) (s := f n) with h | h
    · rw [h]; exact ih
    · exact Or.inr ⟨n, by omega, h⟩
theorem heR_k {M : St} {i ns : Nat} {h co di cr on : Int32} (hv : ¬ heR M i h co di cr on ns < 0) : ∃ k, k < ns ∧ heR M i h co di cr on ns = nI k := by
  unfold heR veR at hv ⊢
  split at hv
  · split at hv
    · exact absurd (by decide) hv
    · exact absurd (by decide) hv
  · rename_i h1
    rw [if_neg h1]
    split at hv
    · split at hv
      · exact absurd (by decide) hv
      · exact absurd (by decide) hv
    · rename_i h2
      rw [if_neg h2]
      rcases foR_k (f := offR M i h co di cr on) ns with h3 | h3
      · rw [h3] at hv
        exact absurd (by decide) hv
      · exact h3
theorem lt40 {L : Nat} (h : L ≤ 40) (h2 : ¬ nI L = 40) : L < 40 := by
  rcases Nat.lt_or_eq_of_le h with h3 | h3
  · exact h3
  · exact absurd (by rw [h3]; rfl) h2
theorem liR_of {M : St} {c i L k f a : Nat} (h : ¬ (f = 14 ∧ a = c)) (h2 : ¬ (f = 13 ∧ a = c)) (h3 : ¬ (f = 10 ∧ a = c)) : liR M c i L k f a = M f a := by
  unfold liR
  rw [mu_ne h3, mu_ne h2, mu_ne h, mu_ne h, mu_ne h, mu_ne h]
theorem hsR_of {M : St} {c i L ns f a : Nat} {on : Int32} (h : ¬ ((f = 14 ∨ f = 13 ∨ f = 10) ∧ a = c)) : hsR M c i L ns on f a = M f a := by
  unfold hsR
  split
  · rfl
  · split
    · exact liR_of (fun z => h ⟨Or.inl z.1, z.2⟩) (fun z => h ⟨Or.inr (Or.inl z.1), z.2⟩) (fun z => h ⟨Or.inr (Or.inr z.1), z.2⟩)
    · rfl
theorem hrS_of {M : St} {c ns f a : Nat} {on : Int32} (h : ¬ ((f = 14 ∨ f = 13 ∨ f = 10) ∧ a = c)) : ∀ i, hrS M c ns on i f a = M f a
  | 0 => rfl
  | i + 1 => by
    have ih := hrS_of (M := M) (ns := ns) (on := on) h i
    unfold hrS
    split
    · exact ih
    · split
      · exact ih
      · rw [hsR_of h]; exact ih
theorem hrS_o {M : St} {c ns f i : Nat} {on : Int32} (h : f ≠ 14) (h2 : f ≠ 13) (h3 : f ≠ 10) : hrS M c ns on i f = M f := funext fun a => hrS_of (by omega) i
theorem hsR_13 {M : St} {c i L ns b : Nat} {on : Int32} (h : b ≠ i) : hsR M c i L ns on 13 c b = M 13 c b := by
  unfold hsR
  split
  · rfl
  · split
    · unfold liR
      rw [mu_o (by omega), mu_j h, mu_o (by omega), mu_o (by omega), mu_o (by omega), mu_o (by omega)]
    · rfl
theorem hrS_13 {M : St} {c ns b : Nat} {on : Int32} : ∀ i, i ≤ b → hrS M c ns on i 13 c b = M 13 c b
  | 0, _ => rfl
  | i + 1, h => by
    have ih := hrS_13 (M := M) (ns := ns) (on := on) (c := c) (b := b) i (by omega)
    unfold hrS
    split
    · exact ih
    · split
      · exact ih
      · rw [hsR_13 (by omega)]; exact ih
theorem okN_of {M N : St} {ns nm : Nat} (h : okN M ns nm) (h0 : N 0 = M 0) (h2 : N 2 = M 2) (h3 : N 3 = M 3) (h4 : N 4 = M 4) (h5 : N 5 = M 5) : okN N ns nm := by
  unfold okN at h ⊢
  rw [h0, h2, h3, h4, h5]
  exact h
theorem hrS_N {M : St} {c ns ns' nm i : Nat} {on : Int32} (h : okN M ns' nm) : okN (hrS M c ns on i) ns' nm :=
  okN_of h (hrS_o (by omega) (by omega) (by omega)) (hrS_o (by omega) (by omega) (by omega)) (hrS_o (by omega) (by omega) (by omega)) (hrS_o (by omega) (by omega) (by omega)) (hrS_o (by omega) (by omega) (by omega))
noncomputable def haR (M : St) (c ns nm : Nat) : St := hrS M c ns (onR M (M 8 c 0) ns) nm
/-- the crystals' hour -/
def wrR (M : St) (c : Nat) : Nat → St
  | 0 => M
  | i + 1 => mu (wrR M c i) 12 c i (if 0 < wrR M c i 12 c i - wrR M c i 7 0 i then wrR M c i 12 c i - wrR M c i 7 0 i else 0)
theorem wrR_of {M : St} {c f : Nat} (h : f ≠ 12) : ∀ i, wrR M c i f = M f
  | 0 => rfl
  | i + 1 => by show mu (wrR M c i) 12 c i _ f = M f; rw [mu_o h]; exact wrR_of h i
def weR (M : St) (c nm : Nat) : St := if rmd (M 8 c 0) 6 = 0 then wrR M c nm else M
theorem weR_of {M : St} {c nm f : Nat} (h : f ≠ 12) : weR M c nm f = M f := by
  unfold weR
  split
  · exact wrR_of h nm
  · rfl
/-- the letters' hour -/
def lnR (M : St) (c k : Nat) : Nat := (M 15 c (2 * k)).toNatClampNeg
def ltR (M : St) (c : Nat) : Nat := (M 9 c 0).toNatClampNeg
def okY (M : St) (c : Nat) : Prop := M 9 c 0 = nI (ltR M c) ∧ ltR M c ≤ 30 ∧ ∀ k, k < ltR M c → M 15 c (2 * k) = nI (lnR M c k) ∧ lnR M c k < 320
def anR (M : St) (c : Nat) : Nat → St × Nat
  | 0 => (M, 0)
  | k + 1 => if (anR M c k).1 15 c (2 * k + 1) ≤ (anR M c k).1 8 c 0 then (if (anR M c k).1 14 c (4 * lnR M c k + 2) < 8 then anR M c k else (mu (mu (anR M c k).1 14 c (4 * lnR M c k + 3) 1) 11 c 0 ((anR M c k).1 11 c 0 + 1), (anR M c k).2)) else (mu (mu (anR M c k).1 15 c (2 * (anR M c k).2) (nI (lnR M c k))) 15 c (2 * (anR M c k).2 + 1) ((anR M c k).1 15 c (2 * k + 1)), (anR M c k).2 + 1)
theorem anR_le {M : St} {c : Nat} : ∀ k, (anR M c k).2 ≤ k
  | 0 => Nat.le_refl 0
  | k + 1 => by
    have h := anR_le (M := M) (c := c) k
    unfold anR
    split
    · split
      · exact Nat.le_succ_of_le h
      · exact Nat.le_succ_of_le h
    · exact Nat.succ_le_succ h
theorem anR_15 {M : St} {c b : Nat} : ∀ k, 2 * k ≤ b → (anR M c k).1 15 c b = M 15 c b
  | 0, _ => rfl
  | k + 1, h => by
    have ih := anR_15 (M := M) (c := c) (b := b) k (by omega)
    have hk := anR_le (M := M) (c := c) k
    unfold anR
    split
    · split
      · exact ih
      · show mu (mu (anR M c k).1 14 c (4 * lnR M c k + 3) 1) 11 c 0 ((anR M c k).1 11 c 0 + 1) 15 c b = _
        rw [mu_o (by omega), mu_o (by omega)]; exact ih
    · show mu (mu (anR M c k).1 15 c (2 * (anR M c k).2) (nI (lnR M c k))) 15 c (2 * (anR M c k).2 + 1) ((anR M c k).1 15 c (2 * k + 1)) 15 c b = _
      rw [mu_of (by omega), mu_of (by omega)]; exact ih
theorem anR_of {M : St} {c f : Nat} (h : f ≠ 14) (h2 : f ≠ 11) (h3 : f ≠ 15) : ∀ k, (anR M c k).1 f = M f
  | 0 => rfl
  | k + 1 => by
    have ih := anR_of (M := M) (c := c) h h2 h3 k
    unfold anR
    split
    · split
      · exact ih
      · show mu (mu (anR M c k).1 14 c (4 * lnR M c k + 3) 1) 11 c 0 ((anR M c k).1 11 c 0 + 1) f = _
        rw [mu_o h2, mu_o h]; exact ih
    · show mu (mu (anR M c k).1 15 c (2 * (anR M c k).2) (nI (lnR M c k))) 15 c (2 * (anR M c k).2 + 1) ((anR M c k).1 15 c (2 * k + 1)) f = _
      rw [mu_o h3, mu_o h3]; exact ih
def asR (M : St) (c : Nat) : St := mu (anR M c (ltR M c)).1 9 c 0 (nI (anR M c (ltR M c)).2)
noncomputable def hoR (M : St) (c ns nm : Nat) : St := mu (asR (weR (haR M c ns nm) c nm) c) 8 c 0 (asR (weR (haR M c ns nm) c nm) c 8 c 0 + 1)
noncomputable def paR (M : St) (c ns nm : Nat) : Nat → St
  | 0 => M
  | i + 1 => hoR (paR M c ns nm i) c ns nm
def okR (M : St) (c ns nm : Nat) : Prop := okN M ns nm ∧ okX M c nm ∧ okY M c
theorem okY_of {M N : St} {c : Nat} (h : okY M c) (h1 : N 9 = M 9) (h2 : N 15 = M 15) : okY N c := by
  unfold okY lnR ltR at h ⊢
  rw [h1, h2]
  exact h
theorem okY_w {M : St} {c ns nm : Nat} (h : okY M c) : okY (weR (haR M c ns nm) c nm) c :=
  okY_of h (by rw [weR_of (by omega)]; exact hrS_o (by omega) (by omega) (by omega)) (by rw [weR_of (by omega)]; exact hrS_o (by omega) (by omega) (by omega))
set_option maxRecDepth 100000 in
set_option maxHeartbeats 4000000 in
theorem c_X7_copy_crys (Z : gZ) (l : Launch) (AD : Nat → Nat) (M : St) (n : Nat) (hn : 16 ≤ n) (c e : Nat) (hc : c < 2) (he : e < 2) : gM Z l yX7_copy cX7_copy 3 none ({ frames := 1, cells := 0, slots := 0, locals := 40 } : Room) [.ref (AD (6 + c)), .ref (AD (8 + e)), .ref (AD (8 + c))] (wR Z AD M n) (none) (wR Z AD (cyR M 12 c e 8) n) 0 0 := by
  refine gM_of (by decide +kernel) (Nat.le_of_ble_eq_true rfl) ?_
  intro pP eE sS mI aA bB mE cC A F hname hG ls hl
  have hx := F.1
  have hb := F.2.1
  have hl : lv_has ls 3 [(0, .ref (AD (6 + c))), (1, .ref (AD (8 + e))), (2, .ref (AD (8 + c)))] := hl
  refine lv_aload_n hx hb dX7_copy_0 rfl (lv_at hl 1 rfl) ?_
  refine lv_iconst (v := 0) hx hb dX7_copy_1 (by decide) ?_
  refine lv_aload_n hx hb dX7_copy_2 rfl (lv_at hl 2 rfl) ?_
  refine lv_iconst (v := 0) hx hb dX7_copy_3 (by decide) ?_
  refine lv_aload_n hx hb dX7_copy_4 rfl (lv_at hl 1 rfl) ?_
  refine gg_alen F hG (t0 := 0) (v := 8) (gR_crys he hn) rfl rfl dX7_copy_5 ?_
  refine gg_copyi F hG hl.1 w5_56 (ws' := (wR Z AD (cyR M 12 c e 8) n)) 0 0 8 (gR_crys he hn) (gR_crys hc hn) rfl rfl rfl (by omega) (by omega) (by omega) (by omega) (pyR_12 hc) (Nat.le_of_ble_eq_true rfl) (Nat.le_of_ble_eq_true rfl) dX7_copy_6 (fun H locs hG => ?_)
  have hG : gG Z A sS (wR Z AD (cyR M 12 c e 8) n) H locs := hG
  exact gg_vret F hG rfl dX7_copy_9
set_option maxRecDepth 100000 in
set_option maxHeartbeats 4000000 in
theorem c_X7_copy_lines (Z : gZ) (l : Launch) (AD : Nat → Nat) (M : St) (n : Nat) (hn : 16 ≤ n) (c e : Nat) (hc : c < 2) (he : e < 2) : gM Z l yX7_copy cX7_copy 3 none ({ frames := 1, cells := 0, slots := 0, locals := 40 } : Room) [.ref (AD (6 + c)), .ref (AD (10 + e)), .ref (AD (10 + c))] (wR Z AD M n) (none) (wR Z AD (cyR M 13 c e 8) n) 0 0 := by
  refine gM_of (by decide +kernel) (Nat.le_of_ble_eq_true rfl) ?_
  intro pP eE sS mI aA bB mE cC A F hname hG ls hl
  have hx := F.1
  have hb := F.2.1
  have hl : lv_has ls 3 [(0, .ref (AD (6 + c))), (1, .ref (AD (10 + e))), (2, .ref (AD (10 + c)))] := hl
  refine lv_aload_n hx hb dX7_copy_0 rfl (lv_at hl 1 rfl) ?_
  refine lv_iconst (v := 0) hx hb dX7_copy_1 (by decide) ?_
  refine lv_aload_n hx hb dX7_copy_2 rfl (lv_at hl 2 rfl) ?_
  refine lv_iconst (v := 0) hx hb dX7_copy_3 (by decide) ?_
  refine lv_aload_n hx hb dX7_copy_4 rfl (lv_at hl 1 rfl) ?_
  refine gg_alen F hG (t0 := 0) (v := 8) (gR_lines he hn) rfl rfl dX7_copy_5 ?_
  refine gg_copyi F hG hl.1 w5_56 (ws' := (wR Z AD (cyR M 13 c e 8) n)) 0 0 8 (gR_lines he hn) (gR_lines hc hn) rfl rfl rfl (by omega) (by omega) (by omega) (by omega) (pyR_13 hc) (Nat.le_of_ble_eq_true rfl) (Nat.le_of_ble_eq_true rfl) dX7_copy_6 (fun H locs hG => ?_)
  have hG : gG Z A sS (wR Z AD (cyR M 13 c e 8) n) H locs := hG
  exact gg_vret F hG rfl dX7_copy_9
set_option maxRecDepth 100000 in
set_option maxHeartbeats 4000000 in
theorem c_X7_copy_log (Z : gZ) (l : Launch) (AD : Nat → Nat) (M : St) (n : Nat) (hn : 16 ≤ n) (c e : Nat) (hc : c < 2) (he : e < 2) : gM Z l yX7_copy cX7_copy 3 none ({ frames := 1, cells := 0, slots := 0, locals := 40 } : Room) [.ref (AD (6 + c)), .ref (AD (12 + e)), .ref (AD (12 + c))] (wR Z AD M n) (none) (wR Z AD (cyR M 14 c e 1280) n) 0 0 := by
  refine gM_of (by decide +kernel) (Nat.le_of_ble_eq_true rfl) ?_
  intro pP eE sS mI aA bB mE cC A F hname hG ls hl
  have hx := F.1
  have hb := F.2.1
  have hl : lv_has ls 3 [(0, .ref (AD (6 + c))), (1, .ref (AD (12 + e))), (2, .ref (AD (12 + c)))] := hl
  refine lv_aload_n hx hb dX7_copy_0 rfl (lv_at hl 1 rfl) ?_
  refine lv_iconst (v := 0) hx hb dX7_copy_1 (by decide) ?_
  refine lv_aload_n hx hb dX7_copy_2 rfl (lv_at hl 2 rfl) ?_
  refine lv_iconst (v := 0) hx hb dX7_copy_3 (by decide) ?_
  refine lv_aload_n hx hb dX7_copy_4 rfl (lv_at hl 1 rfl) ?_
  refine gg_alen F hG (t0 := 0) (v := 1280) (gR_log he hn) rfl rfl dX7_copy_5 ?_
  refine gg_copyi F hG hl.1 w5_56 (ws' := (wR Z AD (cyR M 14 c e 1280) n)) 0 0 1280 (gR_log he hn) (gR_log hc hn) rfl rfl rfl (by omega) (by omega) (by omega) (by omega) (pyR_14 hc) (Nat.le_of_ble_eq_true rfl) (Nat.le_of_ble_eq_true rfl) dX7_copy_6 (fun H locs hG => ?_)
  have hG : gG Z A sS (wR Z AD (cyR M 14 c e 1280) n) H locs := hG
  exact gg_vret F hG rfl dX7_copy_9
set_option maxRecDepth 100000 in
set_option maxHeartbeats 4000000 in
theorem c_X7_copy_mail (Z : gZ) (l : Launch) (AD : Nat → Nat) (M : St) (n : Nat) (hn : 16 ≤ n) (c e : Nat) (hc : c < 2) (he : e < 2) : gM Z l yX7_copy cX7_copy 3 none ({ frames := 1, cells := 0, slots := 0, locals := 40 } : Room) [.ref (AD (6 + c)), .ref (AD (14 + e)), .ref (AD (14 + c))] (wR Z AD M n) (none) (wR Z AD (cyR M 15 c e 60) n) 0 0 := by
  refine gM_of (by decide +kernel) (Nat.le_of_ble_eq_true rfl) ?_
  intro pP eE sS mI aA bB mE cC A F hname hG ls hl
  have hx := F.1
  have hb := F.2.1
  have hl : lv_has ls 3 [(0, .ref (AD (6 + c))), (1, .ref (AD (14 + e))), (2, .ref (AD (14 + c)))] := hl
  refine lv_aload_n hx hb dX7_copy_0 rfl (lv_at hl 1 rfl) ?_
  refine lv_iconst (v := 0) hx hb dX7_copy_1 (by decide) ?_
  refine lv_aload_n hx hb dX7_copy_2 rfl (lv_at hl 2 rfl) ?_
  refine lv_iconst (v := 0) hx hb dX7_copy_3 (by decide) ?_
  refine lv_aload_n hx hb dX7_copy_4 rfl (lv_at hl 1 rfl) ?_
  refine gg_alen F hG (t0 := 0) (v := 60) (gR_mail he hn) rfl rfl dX7_copy_5 ?_
  refine gg_copyi F hG hl.1 w5_56 (ws' := (wR Z AD (cyR M 15 c e 60) n)) 0 0 60 (gR_mail he hn) (gR_mail hc hn) rfl rfl rfl (by omega) (by omega) (by omega) (by omega) (pyR_15 hc) (Nat.le_of_ble_eq_true rfl) (Nat.le_of_ble_eq_true rfl) dX7_copy_6 (fun H locs hG => ?_)
  have hG : gG Z A sS (wR Z AD (cyR M 15 c e 60) n) H locs := hG
  exact gg_vret F hG rfl dX7_copy_9
set_option maxRecDepth 100000 in
set_option maxHeartbeats 4000000 in
theorem c_X7_become (Z : gZ) (l : Launch) (AD : Nat → Nat) (M : St) (n : Nat) (hn : 16 ≤ n) (c e : Nat) (hc : c < 2) (he : e < 2) : gM Z l yX7_become cX7_become 2 none ({ frames := 2, cells := 0, slots := 0, locals := 62 } : Room) [.ref (AD (6 + c)), .ref (AD (6 + e))] (wR Z AD M n) (none) (wR Z AD (beR M c e) n) 0 0 := by
  refine gM_of (by decide +kernel) (Nat.le_of_ble_eq_true rfl) ?_
  intro pP eE sS mI aA bB mE cC A F hname hG ls hl
  have hx := F.1
  have hb := F.2.1
  have hl : lv_has ls 2 [(0, .ref (AD (6 + c))), (1, .ref (AD (6 + e)))] := hl
  refine lv_aload_n hx hb dX7_become_0 rfl (lv_at hl 0 rfl) ?_
  refine lv_aload_n hx hb dX7_become_1 rfl (lv_at hl 1 rfl) ?_
  refine gg_get F hG (ci := 7) (v := .int (M 8 e 0)) 0 gcX7 rfl (gR_state he hn) (by decide) w4_39 rfl dX7_become_2 ?_
  refine gg_put F hG (ci := 7) 0 gcX7 rfl (gR_state hc hn) (by decide) w4_39 rfl rfl rfl (Nat.le_of_ble_eq_true rfl) (pR_8 hc) dX7_become_5 (fun H locs hG => ?_)
  have hG : gG Z A sS (wR Z AD (mu M 8 c 0 (M 8 e 0)) n) H locs := hG
  refine lv_aload_n hx hb dX7_become_8 rfl (lv_at hl 0 rfl) ?_
  refine lv_aload_n hx hb dX7_become_9 rfl (lv_at hl 1 rfl) ?_
  refine gg_get F hG (ci := 7) (v := .int (M 9 e 0)) 1 gcX7 rfl (gR_state he hn) (by decide) w4_41 rfl dX7_become_10 ?_
  refine gg_put F hG (ci := 7) 1 gcX7 rfl (gR_state hc hn) (by decide) w4_41 rfl rfl rfl (Nat.le_of_ble_eq_true rfl) (pR_9 hc) dX7_become_13 (fun H locs hG => ?_)
  have hG : gG Z A sS (wR Z AD (mu (mu M 8 c 0 (M 8 e 0)) 9 c 0 (M 9 e 0)) n) H locs := hG
  refine lv_aload_n hx hb dX7_become_16 rfl (lv_at hl 0 rfl) ?_
  refine lv_aload_n hx hb dX7_become_17 rfl (lv_at hl 1 rfl) ?_
  refine gg_get F hG (ci := 7) (v := .int (M 10 e 0)) 2 gcX7 rfl (gR_state he hn) (by decide) w4_43 rfl dX7_become_18 ?_
  refine gg_put F hG (ci := 7) 2 gcX7 rfl (gR_state hc hn) (by decide) w4_43 rfl rfl rfl (Nat.le_of_ble_eq_true rfl) (pR_10 hc) dX7_become_21 (fun H locs hG => ?_)
  have hG : gG Z A sS (wR Z AD (mu (mu (mu M 8 c 0 (M 8 e 0)) 9 c 0 (M 9 e 0)) 10 c 0 (M 10 e 0)) n) H locs := hG
  refine lv_aload_n hx hb dX7_become_24 rfl (lv_at hl 0 rfl) ?_
  refine lv_aload_n hx hb dX7_become_25 rfl (lv_at hl 1 rfl) ?_
  refine gg_get F hG (ci := 7) (v := .int (M 11 e 0)) 3 gcX7 rfl (gR_state he hn) (by decide) w4_45 rfl dX7_become_26 ?_
  refine gg_put F hG (ci := 7) 3 gcX7 rfl (gR_state hc hn) (by decide) w4_45 rfl rfl rfl (Nat.le_of_ble_eq_true rfl) (pR_11 hc) dX7_become_29 (fun H locs hG => ?_)
  have hG : gG Z A sS (wR Z AD (mu (mu (mu (mu M 8 c 0 (M 8 e 0)) 9 c 0 (M 9 e 0)) 10 c 0 (M 10 e 0)) 11 c 0 (M 11 e 0)) n) H locs := hG
  refine lv_aload_n hx hb dX7_become_32 rfl (lv_at hl 0 rfl) ?_
  refine lv_aload_n hx hb dX7_become_33 rfl (lv_at hl 1 rfl) ?_
  refine gg_get F hG (ci := 7) (v := .ref (AD (8 + e))) 4 gcX7 rfl (gR_state he hn) (by decide) w4_47 rfl dX7_become_34 ?_
  refine lv_aload_n hx hb dX7_become_37 rfl (lv_at hl 0 rfl) ?_
  refine gg_get F hG (ci := 7) (v := .ref (AD (8 + c))) 4 gcX7 rfl (gR_state hc hn) (by decide) w4_47 rfl dX7_become_38 ?_
  refine gg_callV F hG (ci := 7) (As := [.ref (AD (8 + e)), .ref (AD (8 + c))]) (rest := []) (c_X7_copy_crys Z l AD (mu (mu (mu (mu M 8 c 0 (M 8 e 0)) 9 c 0 (M 9 e 0)) 10 c 0 (M 10 e 0)) 11 c 0 (M 11 e 0)) _ hn c e hc he) kY_X7_copy kV_X7_copy (gR_state hc hn) rfl rfl w5_52 rfl ⟨rfl, rfl⟩ ⟨(Nat.le_of_ble_eq_true rfl), (Nat.le_of_ble_eq_true rfl)⟩ rfl (Nat.le_of_ble_eq_true rfl) hl.1 ⟨Nat.zero_le _, Nat.zero_le _⟩ dX7_become_41 rfl (fun H locs hG => ?_)
  refine lv_aload_n hx hb dX7_become_44 rfl (lv_at hl 0 rfl) ?_
  refine lv_aload_n hx hb dX7_become_45 rfl (lv_at hl 1 rfl) ?_
  refine gg_get F hG (ci := 7) (v := .ref (AD (10 + e))) 5 gcX7 rfl (gR_state he hn) (by decide) w4_49 rfl dX7_become_46 ?_
  refine lv_aload_n hx hb dX7_become_49 rfl (lv_at hl 0 rfl) ?_
  refine gg_get F hG (ci := 7) (v := .ref (AD (10 + c))) 5 gcX7 rfl (gR_state hc hn) (by decide) w4_49 rfl dX7_become_50 ?_
  refine gg_callV F hG (ci := 7) (As := [.ref (AD (10 + e)), .ref (AD (10 + c))]) (rest := []) (c_X7_copy_lines Z l AD (cyR (mu (mu (mu (mu M 8 c 0 (M 8 e 0)) 9 c 0 (M 9 e 0)) 10 c 0 (M 10 e 0)) 11 c 0 (M 11 e 0)) 12 c e 8) _ hn c e hc he) kY_X7_copy kV_X7_copy (gR_state hc hn) rfl rfl w5_52 rfl ⟨rfl, rfl⟩ ⟨(Nat.le_of_ble_eq_true rfl), (Nat.le_of_ble_eq_true rfl)⟩ rfl (Nat.le_of_ble_eq_true rfl) hl.1 ⟨Nat.zero_le _, Nat.zero_le _⟩ dX7_become_53 rfl (fun H locs hG => ?_)
  refine lv_aload_n hx hb dX7_become_56 rfl (lv_at hl 0 rfl) ?_
  refine lv_aload_n hx hb dX7_become_57 rfl (lv_at hl 1 rfl) ?_
  refine gg_get F hG (ci := 7) (v := .ref (AD (12 + e))) 6 gcX7 rfl (gR_state he hn) (by decide) w4_51 rfl dX7_become_58 ?_
  refine lv_aload_n hx hb dX7_become_61 rfl (lv_at hl 0 rfl) ?_
  refine gg_get F hG (ci := 7) (v := .ref (AD (12 + c))) 6 gcX7 rfl (gR_state hc hn) (by decide) w4_51 rfl dX7_become_62 ?_
  refine gg_callV F hG (ci := 7) (As := [.ref (AD (12 + e)), .ref (AD (12 + c))]) (rest := []) (c_X7_copy_log Z l AD (cyR (cyR (mu (mu (mu (mu M 8 c 0 (M 8 e 0)) 9 c 0 (M 9 e 0)) 10 c 0 (M 10 e 0)) 11 c 0 (M 11 e 0)) 12 c e 8) 13 c e 8) _ hn c e hc he) kY_X7_copy kV_X7_copy (gR_state hc hn) rfl rfl w5_52 rfl ⟨rfl, rfl⟩ ⟨(Nat.le_of_ble_eq_true rfl), (Nat.le_of_ble_eq_true rfl)⟩ rfl (Nat.le_of_ble_eq_true rfl) hl.1 ⟨Nat.zero_le _, Nat.zero_le _⟩ dX7_become_65 rfl (fun H locs hG => ?_)
  refine lv_aload_n hx hb dX7_become_68 rfl (lv_at hl 0 rfl) ?_
  refine lv_aload_n hx hb dX7_become_69 rfl (lv_at hl 1 rfl) ?_
  refine gg_get F hG (ci := 7) (v := .ref (AD (14 + e))) 7 gcX7 rfl (gR_state he hn) (by decide) w4_53 rfl dX7_become_70 ?_
  refine lv_aload_n hx hb dX7_become_73 rfl (lv_at hl 0 rfl) ?_
  refine gg_get F hG (ci := 7) (v := .ref (AD (14 + c))) 7 gcX7 rfl (gR_state hc hn) (by decide) w4_53 rfl dX7_become_74 ?_
  refine gg_callV F hG (ci := 7) (As := [.ref (AD (14 + e)), .ref (AD (14 + c))]) (rest := []) (c_X7_copy_mail Z l AD (cyR (cyR (cyR (mu (mu (mu (mu M 8 c 0 (M 8 e 0)) 9 c 0 (M 9 e 0)) 10 c 0 (M 10 e 0)) 11 c 0 (M 11 e 0)) 12 c e 8) 13 c e 8) 14 c e 1280) _ hn c e hc he) kY_X7_copy kV_X7_copy (gR_state hc hn) rfl rfl w5_52 rfl ⟨rfl, rfl⟩ ⟨(Nat.le_of_ble_eq_true rfl), (Nat.le_of_ble_eq_true rfl)⟩ rfl (Nat.le_of_ble_eq_true rfl) hl.1 ⟨Nat.zero_le _, Nat.zero_le _⟩ dX7_become_77 rfl (fun H locs hG => ?_)
  exact gg_vret F hG rfl dX7_become_80
set_option maxRecDepth 100000 in
set_option maxHeartbeats 4000000 in
theorem c_X7_hear (Z : gZ) (l : Launch) (AD : Nat → Nat) (M : St) (n : Nat) (hn : 16 ≤ n) (c ns nm : Nat) (hc : c < 2) (hN : okN M ns nm) (hX : okX M c nm) : gM Z l yX7_hear cX7_hear 5 none ({ frames := 4, cells := 0, slots := 0, locals := 107 } : Room) [.ref (AD (6 + c))] (wR Z AD M n) (none) (wR Z AD (haR M c ns nm) n) 0 0 := by
  refine gM_of (by decide +kernel) (Nat.le_of_ble_eq_true rfl) ?_
  intro pP eE sS mI aA bB mE cC A F hname hG ls hl
  have hx := F.1
  have hb := F.2.1
  have hl : lv_has ls 5 [(0, .ref (AD (6 + c)))] := hl
  have hns2 := hN.2.1
  have hnm2 := hN.2.2.2.1
  refine lv_aload_n hx hb dX7_hear_0 rfl (lv_at hl 0 rfl) ?_
  refine gg_get F hG (ci := 7) (v := .ref (AD 0)) 8 gcX7 rfl (gR_state hc hn) (by decide) w4_55 rfl dX7_hear_1 ?_
  refine lv_aload_n hx hb dX7_hear_4 rfl (lv_at hl 0 rfl) ?_
  refine gg_get F hG (ci := 7) (v := .int (M 8 c 0)) 0 gcX7 rfl (gR_state hc hn) (by decide) w4_39 rfl dX7_hear_5 ?_
  refine gg_callVN F hG (ci := 8) (As := [.int (M 8 c 0)]) (rest := []) (c_X8_onAir Z l AD M _ hn _ _ hN (M 8 c 0)) kY_X8_onAir kV_X8_onAir (gR_model hn) rfl rfl wn_50 rfl ⟨rfl, rfl⟩ ⟨(Nat.le_of_ble_eq_true rfl), (Nat.le_of_ble_eq_true rfl)⟩ rfl (Nat.le_of_ble_eq_true rfl) hl.1 ⟨Nat.zero_le _, Nat.zero_le _⟩ dX7_hear_8 rfl (fun H locs hG => ?_)
  refine lv_istore_n (lv' := [(1, .int (onR M (M 8 c 0) ns)), (0, .ref (AD (6 + c)))]) hx hb dX7_hear_11 rfl hl (by decide) rfl (fun ls hl => ?_)
  refine lv_iconst (v := nI 0) hx hb dX7_hear_12 rfl ?_
  refine lv_istore_n (lv' := [(2, .int (nI 0)), (1, .int (onR M (M 8 c 0) ns)), (0, .ref (AD (6 + c)))]) hx hb dX7_hear_13 rfl hl (by decide) rfl (fun ls hl => ?_)
  have loop14 : ∀ (fuQ i : Nat), i ≤ nm → nm + 1 ≤ i + fuQ → ∀ (H : Heap) (locs : List Loc), gG Z A sS (wR Z AD (hrS M c ns (onR M (M 8 c 0) ns) i) n) H locs → ∀ ls : Array Slot, lv_has ls 5 [(0, .ref (AD (6 + c))), (1, .int (onR M (M 8 c 0) ns)), (2, .int (nI i))] → W pP l eE ({ frames := 4, cells := 0, slots := 0, locals := 107 } : Room) sS mI aA bB mE cC H locs 0 0 (MQ bB (gQ Z A (none) (wR Z AD (haR M c ns nm) n)) aA sS 0 0 A) (F0 mI 14 ls []) := by
    intro fuQ
    induction fuQ with
    | zero =>
      intro i h1 h2
      exact absurd h2 (by omega)
    | succ fuQ ih14 =>
      intro i hleQ hfuQ H locs hG ls hl
      by_cases hlt : i < nm
      · have hLi := (hX i hlt).2
        have hLe : hrS M c ns (onR M (M 8 c 0) ns) i 13 c i = nI (szR M c i) := (hrS_13 i (Nat.le_refl i)).trans (hX i hlt).1
        refine lv_iload_n hx hb dX7_hear_14 rfl (lv_at hl 2 rfl) ?_
        refine lv_aload_n hx hb dX7_hear_15 rfl (lv_at hl 0 rfl) ?_
        refine gg_get F hG (ci := 7) (v := .ref (AD 0)) 8 gcX7 rfl (gR_state hc hn) (by decide) w4_55 rfl dX7_hear_16 ?_
        refine gg_getN F hG (ci := 8) (v := .int (nI nm)) 2 gcX8 rfl (gR_model hn) (by decide) wn_46 (congrArg (fun z => some (Value.int z)) (hrS_N (c := c) (ns := ns) (on := onR M (M 8 c 0) ns) (i := i) hN).2.2.1) dX7_hear_19 ?_
        refine lv_icmp_ge (tgt := 223) hx hb dX7_hear_22 (by decide) (fun h22 => absurd h22 (nI_ge hlt (by omega))) (fun h22 => ?_)
        refine lv_aload_n hx hb dX7_hear_25 rfl (lv_at hl 0 rfl) ?_
        refine gg_get F hG (ci := 7) (v := .ref (AD 0)) 8 gcX7 rfl (gR_state hc hn) (by decide) w4_55 rfl dX7_hear_26 ?_
        refine gg_getN F hG (ci := 8) (v := .ref (AD 5)) 7 gcX8 rfl (gR_model hn) (by decide) wn_49 rfl dX7_hear_29 ?_
        refine lv_iload_n hx hb dX7_hear_32 rfl (lv_at hl 2 rfl) ?_
        refine gg_ialdN F hG i (gR_ears hn) rfl (by omega) (by omega) dX7_hear_33 ?_
        refine lv_if_eq (tgt := 217) hx hb dX7_hear_34 (by decide) (fun h34 => ?_) (fun h34 => ?_)
        · refine lv_iinc (v := nI (i + 1)) (lv' := [(2, .int (nI (i + 1))), (0, .ref (AD (6 + c))), (1, .int (onR M (M 8 c 0) ns))]) hx hb dX7_hear_217 hl (k := 2) rfl (nI_1 _) (by decide) rfl (fun ls hl => ?_)
          refine lv_goto (tgt := 14) hx hb dX7_hear_220 (by decide) ?_
          exact ih14 (i + 1) (by omega) (by omega) _ _ (hG.to (congrArg (fun q => wR Z AD q n) (Eq.symm (if_pos h34)))) ls (lv_sub hl [1, 2, 0] rfl)
        · refine lv_aload_n hx hb dX7_hear_37 rfl (lv_at hl 0 rfl) ?_
          refine gg_get F hG (ci := 7) (v := .ref (AD (10 + c))) 5 gcX7 rfl (gR_state hc hn) (by decide) w4_49 rfl dX7_hear_38 ?_
          refine lv_iload_n hx hb dX7_hear_41 rfl (lv_at hl 2 rfl) ?_
          refine gg_ialdN F hG i (gR_lines hc hn) rfl (by omega) (by omega) dX7_hear_42 ?_
          rw [show (hrS M c ns (onR M (M 8 c 0) ns) i) 13 c i = nI (szR M c i) from hLe]
          refine lv_bipush (v := 40) hx hb dX7_hear_43 (by decide) ?_
          refine lv_icmp_ne (tgt := 51) hx hb dX7_hear_45 (by decide) (fun h45 => ?_) (fun h45 => ?_)
          · refine lv_aload_n hx hb dX7_hear_51 rfl (lv_at hl 0 rfl) ?_
            refine gg_get F hG (ci := 7) (v := .ref (AD 0)) 8 gcX7 rfl (gR_state hc hn) (by decide) w4_55 rfl dX7_hear_52 ?_
            refine lv_iload_n hx hb dX7_hear_55 rfl (lv_at hl 2 rfl) ?_
            refine lv_aload_n hx hb dX7_hear_56 rfl (lv_at hl 0 rfl) ?_
            refine gg_get F hG (ci := 7) (v := .int ((hrS M c ns (onR M (M 8 c 0) ns) i) 8 c 0)) 0 gcX7 rfl (gR_state hc hn) (by decide) w4_39 rfl dX7_hear_57 ?_
            refine lv_aload_n hx hb dX7_hear_60 rfl (lv_at hl 0 rfl) ?_
            refine gg_get F hG (ci := 7) (v := .ref (AD 0)) 8 gcX7 rfl (gR_state hc hn) (by decide) w4_55 rfl dX7_hear_61 ?_
            refine gg_getN F hG (ci := 8) (v := .ref (AD 2)) 4 gcX8 rfl (gR_model hn) (by decide) wn_47 rfl dX7_hear_64 ?_
            refine lv_iload_n hx hb dX7_hear_67 rfl (lv_at hl 2 rfl) ?_
            refine gg_ialdN F hG i (gR_turns hn) rfl (by omega) (by omega) dX7_hear_68 ?_
            refine lv_aload_n hx hb dX7_hear_69 rfl (lv_at hl 0 rfl) ?_
            refine gg_get F hG (ci := 7) (v := .ref (AD 0)) 8 gcX7 rfl (gR_state hc hn) (by decide) w4_55 rfl dX7_hear_70 ?_
            refine gg_getN F hG (ci := 8) (v := .ref (AD 3)) 5 gcX8 rfl (gR_model hn) (by decide) wn_48 rfl dX7_hear_73 ?_
            refine lv_iload_n hx hb dX7_hear_76 rfl (lv_at hl 2 rfl) ?_
            refine gg_ialdN F hG i (gR_stand hn) rfl (by omega) (by omega) dX7_hear_77 ?_
            refine lv_aload_n hx hb dX7_hear_78 rfl (lv_at hl 0 rfl) ?_
            refine gg_get F hG (ci := 7) (v := .ref (AD (8 + c))) 4 gcX7 rfl (gR_state hc hn) (by decide) w4_47 rfl dX7_hear_79 ?_
            refine lv_iload_n hx hb dX7_hear_82 rfl (lv_at hl 2 rfl) ?_
            refine gg_ialdN F hG i (gR_crys hc hn) rfl (by omega) (by omega) dX7_hear_83 ?_
            refine lv_iload_n hx hb dX7_hear_84 rfl (lv_at hl 1 rfl) ?_
            refine gg_callVN F hG (ci := 8) (As := [.int (nI i), .int ((hrS M c ns (onR M (M 8 c 0) ns) i) 8 c 0), .int ((hrS M c ns (onR M (M 8 c 0) ns) i) 4 0 i), .int ((hrS M c ns (onR M (M 8 c 0) ns) i) 5 0 i), .int ((hrS M c ns (onR M (M 8 c 0) ns) i) 12 c i), .int (onR M (M 8 c 0) ns)]) (rest := []) (c_X8_heard Z l AD (hrS M c ns (onR M (M 8 c 0) ns) i) _ hn _ _ i (hrS_N hN) (by omega) ((hrS M c ns (onR M (M 8 c 0) ns) i) 8 c 0) ((hrS M c ns (onR M (M 8 c 0) ns) i) 4 0 i) ((hrS M c ns (onR M (M 8 c 0) ns) i) 5 0 i) ((hrS M c ns (onR M (M 8 c 0) ns) i) 12 c i) (onR M (M 8 c 0) ns) ((hrS_N hN).2.2.2.2.2 i hlt)) kY_X8_heard kV_X8_heard (gR_model hn) rfl rfl wn_51 rfl ⟨rfl, rfl⟩ ⟨(Nat.le_of_ble_eq_true rfl), (Nat.le_of_ble_eq_true rfl)⟩ rfl (Nat.le_of_ble_eq_true rfl) hl.1 ⟨Nat.zero_le _, Nat.zero_le _⟩ dX7_hear_85 rfl (fun H locs hG => ?_)
            refine lv_istore_n (lv' := [(3, .int (heR (hrS M c ns (onR M (M 8 c 0) ns) i) i ((hrS M c ns (onR M (M 8 c 0) ns) i) 8 c 0) ((hrS M c ns (onR M (M 8 c 0) ns) i) 4 0 i) ((hrS M c ns (onR M (M 8 c 0) ns) i) 5 0 i) ((hrS M c ns (onR M (M 8 c 0) ns) i) 12 c i) (onR M (M 8 c 0) ns) ns)), (0, .ref (AD (6 + c))), (1, .int (onR M (M 8 c 0) ns)), (2, .int (nI i))]) hx hb dX7_hear_88 rfl hl (by decide) rfl (fun ls hl => ?_)
            refine lv_iload_n hx hb dX7_hear_89 rfl (lv_at hl 0 rfl) ?_
            refine lv_if_lt (tgt := 217) hx hb dX7_hear_90 (by decide) (fun h90 => ?_) (fun h90 => ?_)
            · refine lv_iinc (v := nI (i + 1)) (lv' := [(2, .int (nI (i + 1))), (3, .int (heR (hrS M c ns (onR M (M 8 c 0) ns) i) i ((hrS M c ns (onR M (M 8 c 0) ns) i) 8 c 0) ((hrS M c ns (onR M (M 8 c 0) ns) i) 4 0 i) ((hrS M c ns (onR M (M 8 c 0) ns) i) 5 0 i) ((hrS M c ns (onR M (M 8 c 0) ns) i) 12 c i) (onR M (M 8 c 0) ns) ns)), (0, .ref (AD (6 + c))), (1, .int (onR M (M 8 c 0) ns))]) hx hb dX7_hear_217 hl (k := 3) rfl (nI_1 _) (by decide) rfl (fun ls hl => ?_)
              refine lv_goto (tgt := 14) hx hb dX7_hear_220 (by decide) ?_
              exact ih14 (i + 1) (by omega) (by omega) _ _ (hG.to (congrArg (fun q => wR Z AD q n) (Eq.symm ((if_neg h34).trans ((if_neg h45).trans (if_pos h90)))))) ls (lv_sub hl [2, 3, 0] rfl)
            · have hL40 := lt40 hLi h45
              obtain ⟨k, hk, ek⟩ := heR_k h90
              rw [ek] at hl
              refine lv_aload_n hx hb dX7_hear_93 rfl (lv_at hl 1 rfl) ?_
              refine lv_iload_n hx hb dX7_hear_94 rfl (lv_at hl 3 rfl) ?_
              refine lv_iload_n hx hb dX7_hear_95 rfl (lv_at hl 0 rfl) ?_
              refine gg_callV F hG (ci := 7) (As := [.int (nI i), .int (nI k)]) (rest := []) (c_X7_isInDay Z l AD (hrS M c ns (onR M (M 8 c 0) ns) i) _ hn c i (szR M c i) hc (by omega) hLe hLi (nI k)) kY_X7_isInDay kV_X7_isInDay (gR_state hc hn) rfl rfl w5_5 rfl ⟨rfl, rfl⟩ ⟨(Nat.le_of_ble_eq_true rfl), (Nat.le_of_ble_eq_true rfl)⟩ rfl (Nat.le_of_ble_eq_true rfl) hl.1 ⟨Nat.zero_le _, Nat.zero_le _⟩ dX7_hear_96 rfl (fun H locs hG => ?_)
              refine lv_if_eq (tgt := 105) hx hb dX7_hear_99 (by decide) (fun h99 => ?_) (fun h99 => ?_)
              · refine lv_iconst (v := 4) hx hb dX7_hear_105 (by decide) ?_
                refine lv_bipush (v := 40) hx hb dX7_hear_106 (by decide) ?_
                refine lv_iload_n hx hb dX7_hear_108 rfl (lv_at hl 3 rfl) ?_
                refine lv_imul hx hb dX7_hear_109 ?_
                rw [show (40 * (nI i) : Int32) = nI (40 * i) from pk_mul 40 i]
                refine lv_aload_n hx hb dX7_hear_110 rfl (lv_at hl 1 rfl) ?_
                refine gg_get F hG (ci := 7) (v := .ref (AD (10 + c))) 5 gcX7 rfl (gR_state hc hn) (by decide) w4_49 rfl dX7_hear_111 ?_
                refine lv_iload_n hx hb dX7_hear_114 rfl (lv_at hl 3 rfl) ?_
                refine gg_ialdN F hG i (gR_lines hc hn) rfl (by omega) (by omega) dX7_hear_115 ?_
                rw [show (hrS M c ns (onR M (M 8 c 0) ns) i) 13 c i = nI (szR M c i) from hLe]
                refine lv_iadd hx hb dX7_hear_116 ?_
                rw [show ((nI (40 * i)) + (nI (szR M c i)) : Int32) = nI (40 * i + szR M c i) from nI_add _ _]
                refine lv_imul hx hb dX7_hear_117 ?_
                rw [show (4 * (nI (40 * i + szR M c i)) : Int32) = nI (4 * (40 * i + szR M c i)) from pk_mul 4 _]
                refine lv_istore (lv' := [(4, .int (nI (4 * (40 * i + szR M c i)))), (3, .int (nI k)), (0, .ref (AD (6 + c))), (1, .int (onR M (M 8 c 0) ns)), (2, .int (nI i))]) hx hb dX7_hear_118 hl (by decide) rfl (fun ls hl => ?_)
                refine lv_aload_n hx hb dX7_hear_120 rfl (lv_at hl 2 rfl) ?_
                refine gg_get F hG (ci := 7) (v := .ref (AD (12 + c))) 6 gcX7 rfl (gR_state hc hn) (by decide) w4_51 rfl dX7_hear_121 ?_
                refine lv_iload hx hb dX7_hear_124 (lv_at hl 0 rfl) ?_
                refine lv_aload_n hx hb dX7_hear_126 rfl (lv_at hl 2 rfl) ?_
                refine gg_get F hG (ci := 7) (v := .int ((hrS M c ns (onR M (M 8 c 0) ns) i) 8 c 0)) 0 gcX7 rfl (gR_state hc hn) (by decide) w4_39 rfl dX7_hear_127 ?_
                refine gg_iastN F hG (4 * (40 * i + szR M c i)) (gR_log hc hn) rfl (by omega) (by omega) (pR_14 hc) dX7_hear_130 (fun H locs hG => ?_)
                have hG : gG Z A sS (wR Z AD (mu (hrS M c ns (onR M (M 8 c 0) ns) i) 14 c (4 * (40 * i + szR M c i)) ((hrS M c ns (onR M (M 8 c 0) ns) i) 8 c 0)) n) H locs := hG
                refine lv_aload_n hx hb dX7_hear_131 rfl (lv_at hl 2 rfl) ?_
                refine gg_get F hG (ci := 7) (v := .ref (AD (12 + c))) 6 gcX7 rfl (gR_state hc hn) (by decide) w4_51 rfl dX7_hear_132 ?_
                refine lv_iload hx hb dX7_hear_135 (lv_at hl 0 rfl) ?_
                refine lv_iconst (v := 1) hx hb dX7_hear_137 (by decide) ?_
                refine lv_iadd hx hb dX7_hear_138 ?_
                rw [show ((nI (4 * (40 * i + szR M c i))) + 1 : Int32) = nI (4 * (40 * i + szR M c i) + 1) from nI_add _ _]
                refine lv_iload_n hx hb dX7_hear_139 rfl (lv_at hl 1 rfl) ?_
                refine gg_iastN F hG (4 * (40 * i + szR M c i) + 1) (gR_log hc hn) rfl (by omega) (by omega) (pR_14 hc) dX7_hear_140 (fun H locs hG => ?_)
                have hG : gG Z A sS (wR Z AD (mu (mu (hrS M c ns (onR M (M 8 c 0) ns) i) 14 c (4 * (40 * i + szR M c i)) ((hrS M c ns (onR M (M 8 c 0) ns) i) 8 c 0)) 14 c (4 * (40 * i + szR M c i) + 1) (nI k)) n) H locs := hG
                refine lv_aload_n hx hb dX7_hear_141 rfl (lv_at hl 2 rfl) ?_
                refine gg_get F hG (ci := 7) (v := .ref (AD (12 + c))) 6 gcX7 rfl (gR_state hc hn) (by decide) w4_51 rfl dX7_hear_142 ?_
                refine lv_iload hx hb dX7_hear_145 (lv_at hl 0 rfl) ?_
                refine lv_iconst (v := 2) hx hb dX7_hear_147 (by decide) ?_
                refine lv_iadd hx hb dX7_hear_148 ?_
                rw [show ((nI (4 * (40 * i + szR M c i))) + 2 : Int32) = nI (4 * (40 * i + szR M c i) + 2) from nI_add _ _]
                refine lv_aload_n hx hb dX7_hear_149 rfl (lv_at hl 2 rfl) ?_
                refine gg_get F hG (ci := 7) (v := .ref (AD 0)) 8 gcX7 rfl (gR_state hc hn) (by decide) w4_55 rfl dX7_hear_150 ?_
                refine lv_iload_n hx hb dX7_hear_153 rfl (lv_at hl 4 rfl) ?_
                refine lv_iload_n hx hb dX7_hear_154 rfl (lv_at hl 1 rfl) ?_
                refine lv_aload_n hx hb dX7_hear_155 rfl (lv_at hl 2 rfl) ?_
                refine gg_get F hG (ci := 7) (v := .int ((hrS M c ns (onR M (M 8 c 0) ns) i) 8 c 0)) 0 gcX7 rfl (gR_state hc hn) (by decide) w4_39 rfl dX7_hear_156 ?_
                refine lv_aload_n hx hb dX7_hear_159 rfl (lv_at hl 2 rfl) ?_
                refine gg_get F hG (ci := 7) (v := .ref (AD 0)) 8 gcX7 rfl (gR_state hc hn) (by decide) w4_55 rfl dX7_hear_160 ?_
                refine gg_getN F hG (ci := 8) (v := .ref (AD 2)) 4 gcX8 rfl (gR_model hn) (by decide) wn_47 rfl dX7_hear_163 ?_
                refine lv_iload_n hx hb dX7_hear_166 rfl (lv_at hl 4 rfl) ?_
                refine gg_ialdN F hG i (gR_turns hn) rfl (by omega) (by omega) dX7_hear_167 ?_
                refine lv_aload_n hx hb dX7_hear_168 rfl (lv_at hl 2 rfl) ?_
                refine gg_get F hG (ci := 7) (v := .ref (AD 0)) 8 gcX7 rfl (gR_state hc hn) (by decide) w4_55 rfl dX7_hear_169 ?_
                refine gg_getN F hG (ci := 8) (v := .ref (AD 3)) 5 gcX8 rfl (gR_model hn) (by decide) wn_48 rfl dX7_hear_172 ?_
                refine lv_iload_n hx hb dX7_hear_175 rfl (lv_at hl 4 rfl) ?_
                refine gg_ialdN F hG i (gR_stand hn) rfl (by omega) (by omega) dX7_hear_176 ?_
                refine lv_aload_n hx hb dX7_hear_177 rfl (lv_at hl 2 rfl) ?_
                refine gg_get F hG (ci := 7) (v := .ref (AD (8 + c))) 4 gcX7 rfl (gR_state hc hn) (by decide) w4_47 rfl dX7_hear_178 ?_
                refine lv_iload_n hx hb dX7_hear_181 rfl (lv_at hl 4 rfl) ?_
                refine gg_ialdN F hG i (gR_crys hc hn) rfl (by omega) (by omega) dX7_hear_182 ?_
                refine gg_callVN F hG (ci := 8) (As := [.int (nI i), .int (nI k), .int ((hrS M c ns (onR M (M 8 c 0) ns) i) 8 c 0), .int ((hrS M c ns (onR M (M 8 c 0) ns) i) 4 0 i), .int ((hrS M c ns (onR M (M 8 c 0) ns) i) 5 0 i), .int ((hrS M c ns (onR M (M 8 c 0) ns) i) 12 c i)]) (rest := [.int (nI (4 * (40 * i + szR M c i) + 2)), .ref (AD (12 + c))]) (c_X8_reach Z l AD (mu (mu (hrS M c ns (onR M (M 8 c 0) ns) i) 14 c (4 * (40 * i + szR M c i)) ((hrS M c ns (onR M (M 8 c 0) ns) i) 8 c 0)) 14 c (4 * (40 * i + szR M c i) + 1) (nI k)) _ hn i k (by omega) (by omega) ((hrS_N hN).2.2.2.2.1 k hk) ((hrS M c ns (onR M (M 8 c 0) ns) i) 8 c 0) ((hrS M c ns (onR M (M 8 c 0) ns) i) 4 0 i) ((hrS M c ns (onR M (M 8 c 0) ns) i) 5 0 i) ((hrS M c ns (onR M (M 8 c 0) ns) i) 12 c i) ((hrS_N hN).2.2.2.2.2 i hlt)) kY_X8_reach kV_X8_reach (gR_model hn) rfl rfl wn_52 rfl ⟨rfl, rfl⟩ ⟨(Nat.le_of_ble_eq_true rfl), (Nat.le_of_ble_eq_true rfl)⟩ rfl (Nat.le_of_ble_eq_true rfl) hl.1 ⟨Nat.zero_le _, Nat.zero_le _⟩ dX7_hear_183 rfl (fun H locs hG => ?_)
                refine gg_iastN F hG (4 * (40 * i + szR M c i) + 2) (gR_log hc hn) rfl (by omega) (by omega) (pR_14 hc) dX7_hear_186 (fun H locs hG => ?_)
                have hG : gG Z A sS (wR Z AD (mu (mu (mu (hrS M c ns (onR M (M 8 c 0) ns) i) 14 c (4 * (40 * i + szR M c i)) ((hrS M c ns (onR M (M 8 c 0) ns) i) 8 c 0)) 14 c (4 * (40 * i + szR M c i) + 1) (nI k)) 14 c (4 * (40 * i + szR M c i) + 2) (rcR (mu (mu (hrS M c ns (onR M (M 8 c 0) ns) i) 14 c (4 * (40 * i + szR M c i)) ((hrS M c ns (onR M (M 8 c 0) ns) i) 8 c 0)) 14 c (4 * (40 * i + szR M c i) + 1) (nI k)) i ((hrS M c ns (onR M (M 8 c 0) ns) i) 8 c 0) ((hrS M c ns (onR M (M 8 c 0) ns) i) 4 0 i) ((hrS M c ns (onR M (M 8 c 0) ns) i) 5 0 i) ((hrS M c ns (onR M (M 8 c 0) ns) i) 12 c i) k)) n) H locs := hG
                refine lv_aload_n hx hb dX7_hear_187 rfl (lv_at hl 2 rfl) ?_
                refine gg_get F hG (ci := 7) (v := .ref (AD (12 + c))) 6 gcX7 rfl (gR_state hc hn) (by decide) w4_51 rfl dX7_hear_188 ?_
                refine lv_iload hx hb dX7_hear_191 (lv_at hl 0 rfl) ?_
                refine lv_iconst (v := 3) hx hb dX7_hear_193 (by decide) ?_
                refine lv_iadd hx hb dX7_hear_194 ?_
                rw [show ((nI (4 * (40 * i + szR M c i))) + 3 : Int32) = nI (4 * (40 * i + szR M c i) + 3) from nI_add _ _]
                refine lv_iconst (v := 0) hx hb dX7_hear_195 (by decide) ?_
                refine gg_iastN F hG (4 * (40 * i + szR M c i) + 3) (gR_log hc hn) rfl (by omega) (by omega) (pR_14 hc) dX7_hear_196 (fun H locs hG => ?_)
                have hG : gG Z A sS (wR Z AD (mu (mu (mu (mu (hrS M c ns (onR M (M 8 c 0) ns) i) 14 c (4 * (40 * i + szR M c i)) ((hrS M c ns (onR M (M 8 c 0) ns) i) 8 c 0)) 14 c (4 * (40 * i + szR M c i) + 1) (nI k)) 14 c (4 * (40 * i + szR M c i) + 2) (rcR (mu (mu (hrS M c ns (onR M (M 8 c 0) ns) i) 14 c (4 * (40 * i + szR M c i)) ((hrS M c ns (onR M (M 8 c 0) ns) i) 8 c 0)) 14 c (4 * (40 * i + szR M c i) + 1) (nI k)) i ((hrS M c ns (onR M (M 8 c 0) ns) i) 8 c 0) ((hrS M c ns (onR M (M 8 c 0) ns) i) 4 0 i) ((hrS M c ns (onR M (M 8 c 0) ns) i) 5 0 i) ((hrS M c ns (onR M (M 8 c 0) ns) i) 12 c i) k)) 14 c (4 * (40 * i + szR M c i) + 3) 0) n) H locs := hG
                refine lv_aload_n hx hb dX7_hear_197 rfl (lv_at hl 2 rfl) ?_
                refine gg_get F hG (ci := 7) (v := .ref (AD (10 + c))) 5 gcX7 rfl (gR_state hc hn) (by decide) w4_49 rfl dX7_hear_198 ?_
                refine lv_iload_n hx hb dX7_hear_201 rfl (lv_at hl 4 rfl) ?_
                refine lv_dup2_11 hx hb dX7_hear_202 rfl rfl ?_
                refine gg_ialdN F hG i (gR_lines hc hn) rfl (by omega) (by omega) dX7_hear_203 ?_
                rw [show (mu (mu (mu (mu (hrS M c ns (onR M (M 8 c 0) ns) i) 14 c (4 * (40 * i + szR M c i)) ((hrS M c ns (onR M (M 8 c 0) ns) i) 8 c 0)) 14 c (4 * (40 * i + szR M c i) + 1) (nI k)) 14 c (4 * (40 * i + szR M c i) + 2) (rcR (mu (mu (hrS M c ns (onR M (M 8 c 0) ns) i) 14 c (4 * (40 * i + szR M c i)) ((hrS M c ns (onR M (M 8 c 0) ns) i) 8 c 0)) 14 c (4 * (40 * i + szR M c i) + 1) (nI k)) i ((hrS M c ns (onR M (M 8 c 0) ns) i) 8 c 0) ((hrS M c ns (onR M (M 8 c 0) ns) i) 4 0 i) ((hrS M c ns (onR M (M 8 c 0) ns) i) 5 0 i) ((hrS M c ns (onR M (M 8 c 0) ns) i) 12 c i) k)) 14 c (4 * (40 * i + szR M c i) + 3) 0) 13 c i = nI (szR M c i) from hLe]
                refine lv_iconst (v := 1) hx hb dX7_hear_204 (by decide) ?_
                refine lv_iadd hx hb dX7_hear_205 ?_
                rw [show ((nI (szR M c i)) + 1 : Int32) = nI (szR M c i + 1) from nI_1 _]
                refine gg_iastN F hG i (gR_lines hc hn) rfl (by omega) (by omega) (pR_13 hc) dX7_hear_206 (fun H locs hG => ?_)
                have hG : gG Z A sS (wR Z AD (mu (mu (mu (mu (mu (hrS M c ns (onR M (M 8 c 0) ns) i) 14 c (4 * (40 * i + szR M c i)) ((hrS M c ns (onR M (M 8 c 0) ns) i) 8 c 0)) 14 c (4 * (40 * i + szR M c i) + 1) (nI k)) 14 c (4 * (40 * i + szR M c i) + 2) (rcR (mu (mu (hrS M c ns (onR M (M 8 c 0) ns) i) 14 c (4 * (40 * i + szR M c i)) ((hrS M c ns (onR M (M 8 c 0) ns) i) 8 c 0)) 14 c (4 * (40 * i + szR M c i) + 1) (nI k)) i ((hrS M c ns (onR M (M 8 c 0) ns) i) 8 c 0) ((hrS M c ns (onR M (M 8 c 0) ns) i) 4 0 i) ((hrS M c ns (onR M (M 8 c 0) ns) i) 5 0 i) ((hrS M c ns (onR M (M 8 c 0) ns) i) 12 c i) k)) 14 c (4 * (40 * i + szR M c i) + 3) 0) 13 c i (nI (szR M c i + 1))) n) H locs := hG
                refine lv_aload_n hx hb dX7_hear_207 rfl (lv_at hl 2 rfl) ?_
                refine lv_dup hx hb dX7_hear_208 rfl ?_
                refine gg_get F hG (ci := 7) (v := .int ((hrS M c ns (onR M (M 8 c 0) ns) i) 10 c 0)) 2 gcX7 rfl (gR_state hc hn) (by decide) w4_43 rfl dX7_hear_209 ?_
                refine lv_iconst (v := 1) hx hb dX7_hear_212 (by decide) ?_
                refine lv_iadd hx hb dX7_hear_213 ?_
                refine gg_put F hG (ci := 7) 2 gcX7 rfl (gR_state hc hn) (by decide) w4_43 rfl rfl rfl (Nat.le_of_ble_eq_true rfl) (pR_10 hc) dX7_hear_214 (fun H locs hG => ?_)
                have hG : gG Z A sS (wR Z AD (mu (mu (mu (mu (mu (mu (hrS M c ns (onR M (M 8 c 0) ns) i) 14 c (4 * (40 * i + szR M c i)) ((hrS M c ns (onR M (M 8 c 0) ns) i) 8 c 0)) 14 c (4 * (40 * i + szR M c i) + 1) (nI k)) 14 c (4 * (40 * i + szR M c i) + 2) (rcR (mu (mu (hrS M c ns (onR M (M 8 c 0) ns) i) 14 c (4 * (40 * i + szR M c i)) ((hrS M c ns (onR M (M 8 c 0) ns) i) 8 c 0)) 14 c (4 * (40 * i + szR M c i) + 1) (nI k)) i ((hrS M c ns (onR M (M 8 c 0) ns) i) 8 c 0) ((hrS M c ns (onR M (M 8 c 0) ns) i) 4 0 i) ((hrS M c ns (onR M (M 8 c 0) ns) i) 5 0 i) ((hrS M c ns (onR M (M 8 c 0) ns) i) 12 c i) k)) 14 c (4 * (40 * i + szR M c i) + 3) 0) 13 c i (nI (szR M c i + 1))) 10 c 0 (((hrS M c ns (onR M (M 8 c 0) ns) i) 10 c 0) + 1)) n) H locs := hG
                refine lv_iinc (v := nI (i + 1)) (lv' := [(2, .int (nI (i + 1))), (4, .int (nI (4 * (40 * i + szR M c i)))), (3, .int (nI k)), (0, .ref (AD (6 + c))), (1, .int (onR M (M 8 c 0) ns))]) hx hb dX7_hear_217 hl (k := 4) rfl (nI_1 _) (by decide) rfl (fun ls hl => ?_)
                refine lv_goto (tgt := 14) hx hb dX7_hear_220 (by decide) ?_
                exact ih14 (i + 1) (by omega) (by omega) _ _ (hG.to (congrArg (fun q => wR Z AD q n) (Eq.symm ((if_neg h34).trans ((if_neg h45).trans ((if_neg h90).trans ((if_pos (by rw [ek]; exact h99)).trans (congrArg (liR (hrS M c ns (onR M (M 8 c 0) ns) i) c i (szR M c i)) (by rw [ek]; exact nI_clamp (by omega)))))))))) ls (lv_sub hl [3, 4, 0] rfl)
              · refine lv_goto (tgt := 217) hx hb dX7_hear_102 (by decide) ?_
                refine lv_iinc (v := nI (i + 1)) (lv' := [(2, .int (nI (i + 1))), (3, .int (nI k)), (0, .ref (AD (6 + c))), (1, .int (onR M (M 8 c 0) ns))]) hx hb dX7_hear_217 hl (k := 3) rfl (nI_1 _) (by decide) rfl (fun ls hl => ?_)
                refine lv_goto (tgt := 14) hx hb dX7_hear_220 (by decide) ?_
                exact ih14 (i + 1) (by omega) (by omega) _ _ (hG.to (congrArg (fun q => wR Z AD q n) (Eq.symm ((if_neg h34).trans ((if_neg h45).trans ((if_neg h90).trans (if_neg (by rw [ek]; exact h99)))))))) ls (lv_sub hl [2, 3, 0] rfl)
          · refine lv_goto (tgt := 217) hx hb dX7_hear_48 (by decide) ?_
            refine lv_iinc (v := nI (i + 1)) (lv' := [(2, .int (nI (i + 1))), (0, .ref (AD (6 + c))), (1, .int (onR M (M 8 c 0) ns))]) hx hb dX7_hear_217 hl (k := 2) rfl (nI_1 _) (by decide) rfl (fun ls hl => ?_)
            refine lv_goto (tgt := 14) hx hb dX7_hear_220 (by decide) ?_
            exact ih14 (i + 1) (by omega) (by omega) _ _ (hG.to (congrArg (fun q => wR Z AD q n) (Eq.symm ((if_neg h34).trans (if_pos h45))))) ls (lv_sub hl [1, 2, 0] rfl)
      · have hN : nm = i := by omega
        subst hN
        refine lv_iload_n hx hb dX7_hear_14 rfl (lv_at hl 2 rfl) ?_
        refine lv_aload_n hx hb dX7_hear_15 rfl (lv_at hl 0 rfl) ?_
        refine gg_get F hG (ci := 7) (v := .ref (AD 0)) 8 gcX7 rfl (gR_state hc hn) (by decide) w4_55 rfl dX7_hear_16 ?_
        refine gg_getN F hG (ci := 8) (v := .int (nI nm)) 2 gcX8 rfl (gR_model hn) (by decide) wn_46 (congrArg (fun z => some (Value.int z)) (hrS_N (c := c) (ns := ns) (on := onR M (M 8 c 0) ns) (i := nm) hN).2.2.1) dX7_hear_19 ?_
        refine lv_icmp_ge (tgt := 223) hx hb dX7_hear_22 (by decide) (fun h22 => ?_) (fun h22 => absurd (nI_le (Nat.le_refl _) (by omega)) h22)
        exact gg_vret F hG rfl dX7_hear_223
  exact loop14 (nm + 1) 0 (Nat.zero_le _) (by omega) _ _ hG ls (lv_sub hl [2, 1, 0] rfl)
set_option maxRecDepth 100000 in
set_option maxHeartbeats 4000000 in
theorem c_X7_answer (Z : gZ) (l : Launch) (AD : Nat → Nat) (M : St) (n : Nat) (hn : 16 ≤ n) (c : Nat) (hc : c < 2) (hY : okY M c) : gM Z l yX7_answer cX7_answer 5 none ({ frames := 0, cells := 0, slots := 0, locals := 0 } : Room) [.ref (AD (6 + c))] (wR Z AD M n) (none) (wR Z AD (asR M c) n) 0 0 := by
  refine gM_of (by decide +kernel) (Nat.le_of_ble_eq_true rfl) ?_
  intro pP eE sS mI aA bB mE cC A F hname hG ls hl
  have hx := F.1
  have hb := F.2.1
  have hl : lv_has ls 5 [(0, .ref (AD (6 + c)))] := hl
  have hY2 := hY.2.1
  refine lv_iconst (v := nI 0) hx hb dX7_answer_0 rfl ?_
  refine lv_istore_n (lv' := [(1, .int (nI 0)), (0, .ref (AD (6 + c)))]) hx hb dX7_answer_1 rfl hl (by decide) rfl (fun ls hl => ?_)
  refine lv_iconst (v := nI 0) hx hb dX7_answer_2 rfl ?_
  refine lv_istore_n (lv' := [(2, .int (nI 0)), (1, .int (nI 0)), (0, .ref (AD (6 + c)))]) hx hb dX7_answer_3 rfl hl (by decide) rfl (fun ls hl => ?_)
  have loop4 : ∀ (fuQ k : Nat), k ≤ (ltR M c) → (ltR M c) + 1 ≤ k + fuQ → ∀ (H : Heap) (locs : List Loc), gG Z A sS (wR Z AD (anR M c k).1 n) H locs → ∀ ls : Array Slot, lv_has ls 5 [(0, .ref (AD (6 + c))), (1, .int (nI (anR M c k).2)), (2, .int (nI k))] → W pP l eE ({ frames := 0, cells := 0, slots := 0, locals := 0 } : Room) sS mI aA bB mE cC H locs 0 0 (MQ bB (gQ Z A (none) (wR Z AD (asR M c) n)) aA sS 0 0 A) (F0 mI 4 ls []) := by
    intro fuQ
    induction fuQ with
    | zero =>
      intro k h1 h2
      exact absurd h2 (by omega)
    | succ fuQ ih4 =>
      intro k hleQ hfuQ H locs hG ls hl
      by_cases hlt : k < (ltR M c)
      · have hkle := anR_le (M := M) (c := c) k
        have hlk : (anR M c k).1 15 c (2 * k) = nI (lnR M c k) ∧ lnR M c k < 320 := ⟨by rw [anR_15 k (Nat.le_refl _)]; exact (hY.2.2 k hlt).1, (hY.2.2 k hlt).2⟩
        have hlk2 := hlk.2
        refine lv_iload_n hx hb dX7_answer_4 rfl (lv_at hl 2 rfl) ?_
        refine lv_aload_n hx hb dX7_answer_5 rfl (lv_at hl 0 rfl) ?_
        refine gg_get F hG (ci := 7) (v := .int (nI (ltR M c))) 1 gcX7 rfl (gR_state hc hn) (by decide) w4_41 (congrArg (fun z => some (Value.int z)) (show (anR M c k).1 9 c 0 = nI (ltR M c) by rw [anR_of (by omega) (by omega) (by omega)]; exact hY.1)) dX7_answer_6 ?_
        refine lv_icmp_ge (tgt := 111) hx hb dX7_answer_9 (by decide) (fun h9 => absurd h9 (nI_ge hlt (by omega))) (fun h9 => ?_)
        refine lv_aload_n hx hb dX7_answer_12 rfl (lv_at hl 0 rfl) ?_
        refine gg_get F hG (ci := 7) (v := .ref (AD (14 + c))) 7 gcX7 rfl (gR_state hc hn) (by decide) w4_53 rfl dX7_answer_13 ?_
        refine lv_iconst (v := 2) hx hb dX7_answer_16 (by decide) ?_
        refine lv_iload_n hx hb dX7_answer_17 rfl (lv_at hl 2 rfl) ?_
        refine lv_imul hx hb dX7_answer_18 ?_
        rw [show (2 * (nI k) : Int32) = nI (2 * k) from pk_mul 2 k]
        refine gg_ialdN F hG (2 * k) (gR_mail hc hn) rfl (by omega) (by omega) dX7_answer_19 ?_
        rw [show (anR M c k).1 15 c (2 * k) = nI (lnR M c k) from hlk.1]
        refine lv_istore_n (lv' := [(3, .int (nI (lnR M c k))), (0, .ref (AD (6 + c))), (1, .int (nI (anR M c k).2)), (2, .int (nI k))]) hx hb dX7_answer_20 rfl hl (by decide) rfl (fun ls hl => ?_)
        refine lv_aload_n hx hb dX7_answer_21 rfl (lv_at hl 1 rfl) ?_
        refine gg_get F hG (ci := 7) (v := .ref (AD (14 + c))) 7 gcX7 rfl (gR_state hc hn) (by decide) w4_53 rfl dX7_answer_22 ?_
        refine lv_iconst (v := 2) hx hb dX7_answer_25 (by decide) ?_
        refine lv_iload_n hx hb dX7_answer_26 rfl (lv_at hl 3 rfl) ?_
        refine lv_imul hx hb dX7_answer_27 ?_
        rw [show (2 * (nI k) : Int32) = nI (2 * k) from pk_mul 2 k]
        refine lv_iconst (v := 1) hx hb dX7_answer_28 (by decide) ?_
        refine lv_iadd hx hb dX7_answer_29 ?_
        rw [show ((nI (2 * k)) + 1 : Int32) = nI (2 * k + 1) from nI_add _ _]
        refine gg_ialdN F hG (2 * k + 1) (gR_mail hc hn) rfl (by omega) (by omega) dX7_answer_30 ?_
        refine lv_istore (lv' := [(4, .int (((anR M c k).1) 15 c (2 * k + 1))), (3, .int (nI (lnR M c k))), (0, .ref (AD (6 + c))), (1, .int (nI (anR M c k).2)), (2, .int (nI k))]) hx hb dX7_answer_31 hl (by decide) rfl (fun ls hl => ?_)
        refine lv_iload hx hb dX7_answer_33 (lv_at hl 0 rfl) ?_
        refine lv_aload_n hx hb dX7_answer_35 rfl (lv_at hl 2 rfl) ?_
        refine gg_get F hG (ci := 7) (v := .int (((anR M c k).1) 8 c 0)) 0 gcX7 rfl (gR_state hc hn) (by decide) w4_39 rfl dX7_answer_36 ?_
        refine lv_icmp_le (tgt := 69) hx hb dX7_answer_39 (by decide) (fun h39 => ?_) (fun h39 => ?_)
        · refine lv_aload_n hx hb dX7_answer_69 rfl (lv_at hl 2 rfl) ?_
          refine gg_get F hG (ci := 7) (v := .ref (AD (12 + c))) 6 gcX7 rfl (gR_state hc hn) (by decide) w4_51 rfl dX7_answer_70 ?_
          refine lv_iconst (v := 4) hx hb dX7_answer_73 (by decide) ?_
          refine lv_iload_n hx hb dX7_answer_74 rfl (lv_at hl 1 rfl) ?_
          refine lv_imul hx hb dX7_answer_75 ?_
          rw [show (4 * (nI (lnR M c k)) : Int32) = nI (4 * lnR M c k) from pk_mul 4 _]
          refine lv_iconst (v := 2) hx hb dX7_answer_76 (by decide) ?_
          refine lv_iadd hx hb dX7_answer_77 ?_
          rw [show ((nI (4 * lnR M c k)) + 2 : Int32) = nI (4 * lnR M c k + 2) from nI_add _ _]
          refine gg_ialdN F hG (4 * lnR M c k + 2) (gR_log hc hn) rfl (by omega) (by omega) dX7_answer_78 ?_
          refine lv_bipush (v := 8) hx hb dX7_answer_79 (by decide) ?_
          refine lv_icmp_lt (tgt := 105) hx hb dX7_answer_81 (by decide) (fun h81 => ?_) (fun h81 => ?_)
          · refine lv_iinc (v := nI (k + 1)) (lv' := [(2, .int (nI (k + 1))), (4, .int (((anR M c k).1) 15 c (2 * k + 1))), (3, .int (nI (lnR M c k))), (0, .ref (AD (6 + c))), (1, .int (nI (anR M c k).2))]) hx hb dX7_answer_105 hl (k := 4) rfl (nI_1 _) (by decide) rfl (fun ls hl => ?_)
            refine lv_goto (tgt := 4) hx hb dX7_answer_108 (by decide) ?_
            have e9 : anR M c (k + 1) = (anR M c k) := (if_pos h39).trans (if_pos h81)
            exact ih4 (k + 1) (by omega) (by omega) _ _ (hG.to (congrArg (fun q => wR Z AD q n) (Eq.symm (congrArg Prod.fst e9)))) ls (by rw [e9]; exact lv_sub hl [3, 4, 0] rfl)
          · refine lv_aload_n hx hb dX7_answer_84 rfl (lv_at hl 2 rfl) ?_
            refine gg_get F hG (ci := 7) (v := .ref (AD (12 + c))) 6 gcX7 rfl (gR_state hc hn) (by decide) w4_51 rfl dX7_answer_85 ?_
            refine lv_iconst (v := 4) hx hb dX7_answer_88 (by decide) ?_
            refine lv_iload_n hx hb dX7_answer_89 rfl (lv_at hl 1 rfl) ?_
            refine lv_imul hx hb dX7_answer_90 ?_
            rw [show (4 * (nI (lnR M c k)) : Int32) = nI (4 * lnR M c k) from pk_mul 4 _]
            refine lv_iconst (v := 3) hx hb dX7_answer_91 (by decide) ?_
            refine lv_iadd hx hb dX7_answer_92 ?_
            rw [show ((nI (4 * lnR M c k)) + 3 : Int32) = nI (4 * lnR M c k + 3) from nI_add _ _]
            refine lv_iconst (v := 1) hx hb dX7_answer_93 (by decide) ?_
            refine gg_iastN F hG (4 * lnR M c k + 3) (gR_log hc hn) rfl (by omega) (by omega) (pR_14 hc) dX7_answer_94 (fun H locs hG => ?_)
            have hG : gG Z A sS (wR Z AD (mu (anR M c k).1 14 c (4 * lnR M c k + 3) 1) n) H locs := hG
            refine lv_aload_n hx hb dX7_answer_95 rfl (lv_at hl 2 rfl) ?_
            refine lv_dup hx hb dX7_answer_96 rfl ?_
            refine gg_get F hG (ci := 7) (v := .int (((anR M c k).1) 11 c 0)) 3 gcX7 rfl (gR_state hc hn) (by decide) w4_45 rfl dX7_answer_97 ?_
            refine lv_iconst (v := 1) hx hb dX7_answer_100 (by decide) ?_
            refine lv_iadd hx hb dX7_answer_101 ?_
            refine gg_put F hG (ci := 7) 3 gcX7 rfl (gR_state hc hn) (by decide) w4_45 rfl rfl rfl (Nat.le_of_ble_eq_true rfl) (pR_11 hc) dX7_answer_102 (fun H locs hG => ?_)
            have hG : gG Z A sS (wR Z AD (mu (mu (anR M c k).1 14 c (4 * lnR M c k + 3) 1) 11 c 0 ((((anR M c k).1) 11 c 0) + 1)) n) H locs := hG
            refine lv_iinc (v := nI (k + 1)) (lv' := [(2, .int (nI (k + 1))), (4, .int (((anR M c k).1) 15 c (2 * k + 1))), (3, .int (nI (lnR M c k))), (0, .ref (AD (6 + c))), (1, .int (nI (anR M c k).2))]) hx hb dX7_answer_105 hl (k := 4) rfl (nI_1 _) (by decide) rfl (fun ls hl => ?_)
            refine lv_goto (tgt := 4) hx hb dX7_answer_108 (by decide) ?_
            have e9 : anR M c (k + 1) = (mu (mu (anR M c k).1 14 c (4 * lnR M c k + 3) 1) 11 c 0 ((anR M c k).1 11 c 0 + 1), (anR M c k).2) := (if_pos h39).trans (if_neg h81)
            exact ih4 (k + 1) (by omega) (by omega) _ _ (hG.to (congrArg (fun q => wR Z AD q n) (Eq.symm (congrArg Prod.fst e9)))) ls (by rw [e9]; exact lv_sub hl [3, 4, 0] rfl)
        · refine lv_aload_n hx hb dX7_answer_42 rfl (lv_at hl 2 rfl) ?_
          refine gg_get F hG (ci := 7) (v := .ref (AD (14 + c))) 7 gcX7 rfl (gR_state hc hn) (by decide) w4_53 rfl dX7_answer_43 ?_
          refine lv_iconst (v := 2) hx hb dX7_answer_46 (by decide) ?_
          refine lv_iload_n hx hb dX7_answer_47 rfl (lv_at hl 3 rfl) ?_
          refine lv_imul hx hb dX7_answer_48 ?_
          rw [show (2 * (nI (anR M c k).2) : Int32) = nI (2 * (anR M c k).2) from pk_mul 2 _]
          refine lv_iload_n hx hb dX7_answer_49 rfl (lv_at hl 1 rfl) ?_
          refine gg_iastN F hG (2 * (anR M c k).2) (gR_mail hc hn) rfl (by omega) (by omega) (pR_15 hc) dX7_answer_50 (fun H locs hG => ?_)
          have hG : gG Z A sS (wR Z AD (mu (anR M c k).1 15 c (2 * (anR M c k).2) (nI (lnR M c k))) n) H locs := hG
          refine lv_aload_n hx hb dX7_answer_51 rfl (lv_at hl 2 rfl) ?_
          refine gg_get F hG (ci := 7) (v := .ref (AD (14 + c))) 7 gcX7 rfl (gR_state hc hn) (by decide) w4_53 rfl dX7_answer_52 ?_
          refine lv_iconst (v := 2) hx hb dX7_answer_55 (by decide) ?_
          refine lv_iload_n hx hb dX7_answer_56 rfl (lv_at hl 3 rfl) ?_
          refine lv_imul hx hb dX7_answer_57 ?_
          rw [show (2 * (nI (anR M c k).2) : Int32) = nI (2 * (anR M c k).2) from pk_mul 2 _]
          refine lv_iconst (v := 1) hx hb dX7_answer_58 (by decide) ?_
          refine lv_iadd hx hb dX7_answer_59 ?_
          rw [show ((nI (2 * (anR M c k).2)) + 1 : Int32) = nI (2 * (anR M c k).2 + 1) from nI_add _ _]
          refine lv_iload hx hb dX7_answer_60 (lv_at hl 0 rfl) ?_
          refine gg_iastN F hG (2 * (anR M c k).2 + 1) (gR_mail hc hn) rfl (by omega) (by omega) (pR_15 hc) dX7_answer_62 (fun H locs hG => ?_)
          have hG : gG Z A sS (wR Z AD (mu (mu (anR M c k).1 15 c (2 * (anR M c k).2) (nI (lnR M c k))) 15 c (2 * (anR M c k).2 + 1) (((anR M c k).1) 15 c (2 * k + 1))) n) H locs := hG
          refine lv_iinc (v := nI ((anR M c k).2 + 1)) (lv' := [(1, .int (nI ((anR M c k).2 + 1))), (4, .int (((anR M c k).1) 15 c (2 * k + 1))), (3, .int (nI (lnR M c k))), (0, .ref (AD (6 + c))), (2, .int (nI k))]) hx hb dX7_answer_63 hl (k := 3) rfl (nI_1 _) (by decide) rfl (fun ls hl => ?_)
          refine lv_goto (tgt := 105) hx hb dX7_answer_66 (by decide) ?_
          refine lv_iinc (v := nI (k + 1)) (lv' := [(2, .int (nI (k + 1))), (1, .int (nI ((anR M c k).2 + 1))), (4, .int (((anR M c k).1) 15 c (2 * k + 1))), (3, .int (nI (lnR M c k))), (0, .ref (AD (6 + c)))]) hx hb dX7_answer_105 hl (k := 4) rfl (nI_1 _) (by decide) rfl (fun ls hl => ?_)
          refine lv_goto (tgt := 4) hx hb dX7_answer_108 (by decide) ?_
          have e9 : anR M c (k + 1) = (mu (mu (anR M c k).1 15 c (2 * (anR M c k).2) (nI (lnR M c k))) 15 c (2 * (anR M c k).2 + 1) ((anR M c k).1 15 c (2 * k + 1)), (anR M c k).2 + 1) := if_neg h39
          exact ih4 (k + 1) (by omega) (by omega) _ _ (hG.to (congrArg (fun q => wR Z AD q n) (Eq.symm (congrArg Prod.fst e9)))) ls (by rw [e9]; exact lv_sub hl [4, 1, 0] rfl)
      · have hN : (ltR M c) = k := by omega
        subst hN
        refine lv_iload_n hx hb dX7_answer_4 rfl (lv_at hl 2 rfl) ?_
        refine lv_aload_n hx hb dX7_answer_5 rfl (lv_at hl 0 rfl) ?_
        refine gg_get F hG (ci := 7) (v := .int (nI (ltR M c))) 1 gcX7 rfl (gR_state hc hn) (by decide) w4_41 (congrArg (fun z => some (Value.int z)) (show (anR M c (ltR M c)).1 9 c 0 = nI (ltR M c) by rw [anR_of (by omega) (by omega) (by omega)]; exact hY.1)) dX7_answer_6 ?_
        refine lv_icmp_ge (tgt := 111) hx hb dX7_answer_9 (by decide) (fun h9 => ?_) (fun h9 => absurd (nI_le (Nat.le_refl _) (by omega)) h9)
        refine lv_aload_n hx hb dX7_answer_111 rfl (lv_at hl 0 rfl) ?_
        refine lv_iload_n hx hb dX7_answer_112 rfl (lv_at hl 1 rfl) ?_
        refine gg_put F hG (ci := 7) 1 gcX7 rfl (gR_state hc hn) (by decide) w4_41 rfl rfl rfl (Nat.le_of_ble_eq_true rfl) (pR_9 hc) dX7_answer_113 (fun H locs hG => ?_)
        have hG : gG Z A sS (wR Z AD (mu (anR M c (ltR M c)).1 9 c 0 (nI (anR M c (ltR M c)).2)) n) H locs := hG
        exact gg_vret F hG rfl dX7_answer_116
  exact loop4 ((ltR M c) + 1) 0 (Nat.zero_le _) (by omega) _ _ hG ls (lv_sub hl [2, 1, 0] rfl)
set_option maxRecDepth 100000 in
set_option maxHeartbeats 4000000 in
theorem c_X7_pass (Z : gZ) (l : Launch) (AD : Nat → Nat) (M : St) (n : Nat) (hn : 16 ≤ n) (c ns nm h : Nat) (hc : c < 2) (hh : h ≤ 240) (hI : ∀ i, i < h → okR (paR M c ns nm i) c ns nm) : gM Z l yX7_pass cX7_pass 4 none ({ frames := 5, cells := 0, slots := 0, locals := 131 } : Room) [.ref (AD (6 + c)), .int (nI h)] (wR Z AD M n) (none) (wR Z AD (paR M c ns nm h) n) 0 0 := by
  refine gM_of (by decide +kernel) (Nat.le_of_ble_eq_true rfl) ?_
  intro pP eE sS mI aA bB mE cC A F hname hG ls hl
  have hx := F.1
  have hb := F.2.1
  have hl : lv_has ls 4 [(0, .ref (AD (6 + c))), (1, .int (nI h))] := hl
  refine lv_iconst (v := nI 0) hx hb dX7_pass_0 rfl ?_
  refine lv_istore_n (lv' := [(2, .int (nI 0)), (0, .ref (AD (6 + c))), (1, .int (nI h))]) hx hb dX7_pass_1 rfl hl (by decide) rfl (fun ls hl => ?_)
  have loop2 : ∀ (fuQ i : Nat), i ≤ h → h + 1 ≤ i + fuQ → ∀ (H : Heap) (locs : List Loc), gG Z A sS (wR Z AD (paR M c ns nm i) n) H locs → ∀ ls : Array Slot, lv_has ls 4 [(0, .ref (AD (6 + c))), (1, .int (nI h)), (2, .int (nI i))] → W pP l eE ({ frames := 5, cells := 0, slots := 0, locals := 131 } : Room) sS mI aA bB mE cC H locs 0 0 (MQ bB (gQ Z A (none) (wR Z AD (paR M c ns nm h) n)) aA sS 0 0 A) (F0 mI 2 ls []) := by
    intro fuQ
    induction fuQ with
    | zero =>
      intro i h1 h2
      exact absurd h2 (by omega)
    | succ fuQ ih2 =>
      intro i hleQ hfuQ H locs hG ls hl
      by_cases hlt : i < h
      · have hIi := hI i hlt
        have hnm2 := hIi.1.2.2.2.1
        refine lv_iload_n hx hb dX7_pass_2 rfl (lv_at hl 2 rfl) ?_
        refine lv_iload_n hx hb dX7_pass_3 rfl (lv_at hl 1 rfl) ?_
        refine lv_icmp_ge (tgt := 86) hx hb dX7_pass_4 (by decide) (fun h4 => absurd h4 (nI_ge hlt (by omega))) (fun h4 => ?_)
        refine lv_aload_n hx hb dX7_pass_7 rfl (lv_at hl 0 rfl) ?_
        refine gg_callV F hG (ci := 7) (As := []) (rest := []) (c_X7_hear Z l AD (paR M c ns nm i) _ hn c ns nm hc hIi.1 hIi.2.1) kY_X7_hear kV_X7_hear (gR_state hc hn) rfl rfl w4_239 rfl ⟨rfl, rfl⟩ ⟨(Nat.le_of_ble_eq_true rfl), (Nat.le_of_ble_eq_true rfl)⟩ rfl (Nat.le_of_ble_eq_true rfl) hl.1 ⟨Nat.zero_le _, Nat.zero_le _⟩ dX7_pass_8 rfl (fun H locs hG => ?_)
        refine lv_iconst (v := nI 0) hx hb dX7_pass_11 rfl ?_
        refine lv_istore_n (lv' := [(3, .int (nI 0)), (0, .ref (AD (6 + c))), (1, .int (nI h)), (2, .int (nI i))]) hx hb dX7_pass_12 rfl hl (by decide) rfl (fun ls hl => ?_)
        by_cases h6 : rmd ((haR (paR M c ns nm i) c ns nm) 8 c 0) 6 = 0
        · have loop13 : ∀ (fuQ u : Nat), u ≤ nm → nm + 1 ≤ u + fuQ → ∀ (H : Heap) (locs : List Loc), gG Z A sS (wR Z AD (wrR (haR (paR M c ns nm i) c ns nm) c u) n) H locs → ∀ ls : Array Slot, lv_has ls 4 [(0, .ref (AD (6 + c))), (1, .int (nI h)), (2, .int (nI i)), (3, .int (nI u))] → W pP l eE ({ frames := 5, cells := 0, slots := 0, locals := 131 } : Room) sS mI aA bB mE cC H locs 0 0 (MQ bB (gQ Z A (none) (wR Z AD (paR M c ns nm h) n)) aA sS 0 0 A) (F0 mI 13 ls []) := by
            intro fuQ
            induction fuQ with
            | zero =>
              intro u h1 h2
              exact absurd h2 (by omega)
            | succ fuQ ih13 =>
              intro u hleQ hfuQ H locs hG ls hl
              by_cases hltu : u < nm
              · refine lv_iload_n hx hb dX7_pass_13 rfl (lv_at hl 3 rfl) ?_
                refine lv_aload_n hx hb dX7_pass_14 rfl (lv_at hl 0 rfl) ?_
                refine gg_get F hG (ci := 7) (v := .ref (AD 0)) 8 gcX7 rfl (gR_state hc hn) (by decide) w4_55 rfl dX7_pass_15 ?_
                refine gg_getN F hG (ci := 8) (v := .int (nI nm)) 2 gcX8 rfl (gR_model hn) (by decide) wn_46 (congrArg (fun z => some (Value.int z)) (show (wrR (haR (paR M c ns nm i) c ns nm) c u) 3 0 0 = nI nm by rw [wrR_of (by omega)]; exact (hrS_N hIi.1).2.2.1)) dX7_pass_18 ?_
                refine lv_icmp_ge (tgt := 66) hx hb dX7_pass_21 (by decide) (fun h21 => absurd h21 (nI_ge hltu (by omega))) (fun h21 => ?_)
                refine lv_aload_n hx hb dX7_pass_24 rfl (lv_at hl 0 rfl) ?_
                refine gg_get F hG (ci := 7) (v := .int ((wrR (haR (paR M c ns nm i) c ns nm) c u) 8 c 0)) 0 gcX7 rfl (gR_state hc hn) (by decide) w4_39 rfl dX7_pass_25 ?_
                refine lv_bipush (v := 6) hx hb dX7_pass_28 (by decide) ?_
                refine lv_irem hx hb dX7_pass_30 (by decide) ?_
                refine lv_if_ne (tgt := 66) hx hb dX7_pass_31 (by decide) (fun h31 => absurd (show rmd ((wrR (haR (paR M c ns nm i) c ns nm) c u) 8 c 0) 6 = 0 by rw [wrR_of (by omega)]; exact h6) h31) (fun h31 => ?_)
                refine lv_aload_n hx hb dX7_pass_34 rfl (lv_at hl 0 rfl) ?_
                refine gg_get F hG (ci := 7) (v := .ref (AD (8 + c))) 4 gcX7 rfl (gR_state hc hn) (by decide) w4_47 rfl dX7_pass_35 ?_
                refine lv_iload_n hx hb dX7_pass_38 rfl (lv_at hl 3 rfl) ?_
                refine lv_iconst (v := 0) hx hb dX7_pass_39 (by decide) ?_
                refine lv_aload_n hx hb dX7_pass_40 rfl (lv_at hl 0 rfl) ?_
                refine gg_get F hG (ci := 7) (v := .ref (AD (8 + c))) 4 gcX7 rfl (gR_state hc hn) (by decide) w4_47 rfl dX7_pass_41 ?_
                refine lv_iload_n hx hb dX7_pass_44 rfl (lv_at hl 3 rfl) ?_
                refine gg_ialdN F hG u (gR_crys hc hn) rfl (by omega) (by omega) dX7_pass_45 ?_
                refine lv_aload_n hx hb dX7_pass_46 rfl (lv_at hl 0 rfl) ?_
                refine gg_get F hG (ci := 7) (v := .ref (AD 0)) 8 gcX7 rfl (gR_state hc hn) (by decide) w4_55 rfl dX7_pass_47 ?_
                refine gg_getN F hG (ci := 8) (v := .ref (AD 5)) 7 gcX8 rfl (gR_model hn) (by decide) wn_49 rfl dX7_pass_50 ?_
                refine lv_iload_n hx hb dX7_pass_53 rfl (lv_at hl 3 rfl) ?_
                refine gg_ialdN F hG u (gR_ears hn) rfl (by omega) (by omega) dX7_pass_54 ?_
                refine lv_isub hx hb dX7_pass_55 ?_
                refine gg_max F hl.1 w5_10 (Nat.le_of_ble_eq_true rfl) (Nat.le_of_ble_eq_true rfl) (Nat.zero_le _) (Nat.zero_le _) dX7_pass_56 ?_
                refine gg_iastN F hG u (gR_crys hc hn) rfl (by omega) (by omega) (pR_12 hc) dX7_pass_59 (fun H locs hG => ?_)
                have hG : gG Z A sS (wR Z AD (mu (wrR (haR (paR M c ns nm i) c ns nm) c u) 12 c u (if 0 < ((wrR (haR (paR M c ns nm i) c ns nm) c u) 12 c u) - ((wrR (haR (paR M c ns nm i) c ns nm) c u) 7 0 u) then ((wrR (haR (paR M c ns nm i) c ns nm) c u) 12 c u) - ((wrR (haR (paR M c ns nm i) c ns nm) c u) 7 0 u) else 0)) n) H locs := hG
                refine lv_iinc (v := nI (u + 1)) (lv' := [(3, .int (nI (u + 1))), (0, .ref (AD (6 + c))), (1, .int (nI h)), (2, .int (nI i))]) hx hb dX7_pass_60 hl (k := 3) rfl (nI_1 _) (by decide) rfl (fun ls hl => ?_)
                refine lv_goto (tgt := 13) hx hb dX7_pass_63 (by decide) ?_
                exact ih13 (u + 1) (by omega) (by omega) _ _ hG ls (lv_sub hl [1, 2, 3, 0] rfl)
              · have hN : nm = u := by omega
                subst hN
                refine lv_iload_n hx hb dX7_pass_13 rfl (lv_at hl 3 rfl) ?_
                refine lv_aload_n hx hb dX7_pass_14 rfl (lv_at hl 0 rfl) ?_
                refine gg_get F hG (ci := 7) (v := .ref (AD 0)) 8 gcX7 rfl (gR_state hc hn) (by decide) w4_55 rfl dX7_pass_15 ?_
                refine gg_getN F hG (ci := 8) (v := .int (nI nm)) 2 gcX8 rfl (gR_model hn) (by decide) wn_46 (congrArg (fun z => some (Value.int z)) (show (wrR (haR (paR M c ns nm i) c ns nm) c nm) 3 0 0 = nI nm by rw [wrR_of (by omega)]; exact (hrS_N hIi.1).2.2.1)) dX7_pass_18 ?_
                refine lv_icmp_ge (tgt := 66) hx hb dX7_pass_21 (by decide) (fun h21 => ?_) (fun h21 => absurd (nI_le (Nat.le_refl _) (by omega)) h21)
                refine lv_aload_n hx hb dX7_pass_66 rfl (lv_at hl 0 rfl) ?_
                refine gg_callV F hG (ci := 7) (As := []) (rest := []) (c_X7_answer Z l AD (wrR (haR (paR M c ns nm i) c ns nm) c nm) _ hn c hc (show okY (wrR (haR (paR M c ns nm i) c ns nm) c nm) c from okY_of hIi.2.2 (by rw [wrR_of (by omega)]; exact hrS_o (by omega) (by omega) (by omega)) (by rw [wrR_of (by omega)]; exact hrS_o (by omega) (by omega) (by omega)))) kY_X7_answer kV_X7_answer (gR_state hc hn) rfl rfl w5_11 rfl ⟨rfl, rfl⟩ ⟨(Nat.le_of_ble_eq_true rfl), (Nat.le_of_ble_eq_true rfl)⟩ rfl (Nat.le_of_ble_eq_true rfl) hl.1 ⟨Nat.zero_le _, Nat.zero_le _⟩ dX7_pass_67 rfl (fun H locs hG => ?_)
                refine lv_aload_n hx hb dX7_pass_70 rfl (lv_at hl 0 rfl) ?_
                refine lv_dup hx hb dX7_pass_71 rfl ?_
                refine gg_get F hG (ci := 7) (v := .int ((asR (wrR (haR (paR M c ns nm i) c ns nm) c nm) c) 8 c 0)) 0 gcX7 rfl (gR_state hc hn) (by decide) w4_39 rfl dX7_pass_72 ?_
                refine lv_iconst (v := 1) hx hb dX7_pass_75 (by decide) ?_
                refine lv_iadd hx hb dX7_pass_76 ?_
                refine gg_put F hG (ci := 7) 0 gcX7 rfl (gR_state hc hn) (by decide) w4_39 rfl rfl rfl (Nat.le_of_ble_eq_true rfl) (pR_8 hc) dX7_pass_77 (fun H locs hG => ?_)
                have hG : gG Z A sS (wR Z AD (mu (asR (wrR (haR (paR M c ns nm i) c ns nm) c nm) c) 8 c 0 (((asR (wrR (haR (paR M c ns nm i) c ns nm) c nm) c) 8 c 0) + 1)) n) H locs := hG
                refine lv_iinc (v := nI (i + 1)) (lv' := [(2, .int (nI (i + 1))), (0, .ref (AD (6 + c))), (1, .int (nI h)), (3, .int (nI nm))]) hx hb dX7_pass_80 hl (k := 2) rfl (nI_1 _) (by decide) rfl (fun ls hl => ?_)
                refine lv_goto (tgt := 2) hx hb dX7_pass_83 (by decide) ?_
                exact ih2 (i + 1) (by omega) (by omega) _ _ (hG.to (congrArg (fun q => wR Z AD q n) (congrArg (fun z => mu (asR z c) 8 c 0 ((asR z c) 8 c 0 + 1)) (if_pos h6).symm))) ls (lv_sub hl [1, 2, 0] rfl)
          exact loop13 (nm + 1) 0 (Nat.zero_le _) (by omega) _ _ hG ls (lv_sub hl [1, 2, 3, 0] rfl)
        · refine lv_iload_n hx hb dX7_pass_13 rfl (lv_at hl 0 rfl) ?_
          refine lv_aload_n hx hb dX7_pass_14 rfl (lv_at hl 1 rfl) ?_
          refine gg_get F hG (ci := 7) (v := .ref (AD 0)) 8 gcX7 rfl (gR_state hc hn) (by decide) w4_55 rfl dX7_pass_15 ?_
          refine gg_getN F hG (ci := 8) (v := .int (nI nm)) 2 gcX8 rfl (gR_model hn) (by decide) wn_46 (congrArg (fun z => some (Value.int z)) (hrS_N hIi.1).2.2.1) dX7_pass_18 ?_
          refine lv_icmp_ge (tgt := 66) hx hb dX7_pass_21 (by decide) (fun h21 => ?_) (fun h21 => ?_)
          · refine lv_aload_n hx hb dX7_pass_66 rfl (lv_at hl 1 rfl) ?_
            refine gg_callV F hG (ci := 7) (As := []) (rest := []) (c_X7_answer Z l AD (haR (paR M c ns nm i) c ns nm) _ hn c hc (show okY (haR (paR M c ns nm i) c ns nm) c from okY_of hIi.2.2 (hrS_o (by omega) (by omega) (by omega)) (hrS_o (by omega) (by omega) (by omega)))) kY_X7_answer kV_X7_answer (gR_state hc hn) rfl rfl w5_11 rfl ⟨rfl, rfl⟩ ⟨(Nat.le_of_ble_eq_true rfl), (Nat.le_of_ble_eq_true rfl)⟩ rfl (Nat.le_of_ble_eq_true rfl) hl.1 ⟨Nat.zero_le _, Nat.zero_le _⟩ dX7_pass_67 rfl (fun H locs hG => ?_)
            refine lv_aload_n hx hb dX7_pass_70 rfl (lv_at hl 1 rfl) ?_
            refine lv_dup hx hb dX7_pass_71 rfl ?_
            refine gg_get F hG (ci := 7) (v := .int ((asR (haR (paR M c ns nm i) c ns nm) c) 8 c 0)) 0 gcX7 rfl (gR_state hc hn) (by decide) w4_39 rfl dX7_pass_72 ?_
            refine lv_iconst (v := 1) hx hb dX7_pass_75 (by decide) ?_
            refine lv_iadd hx hb dX7_pass_76 ?_
            refine gg_put F hG (ci := 7) 0 gcX7 rfl (gR_state hc hn) (by decide) w4_39 rfl rfl rfl (Nat.le_of_ble_eq_true rfl) (pR_8 hc) dX7_pass_77 (fun H locs hG => ?_)
            have hG : gG Z A sS (wR Z AD (mu (asR (haR (paR M c ns nm i) c ns nm) c) 8 c 0 (((asR (haR (paR M c ns nm i) c ns nm) c) 8 c 0) + 1)) n) H locs := hG
            refine lv_iinc (v := nI (i + 1)) (lv' := [(2, .int (nI (i + 1))), (3, .int (nI 0)), (0, .ref (AD (6 + c))), (1, .int (nI h))]) hx hb dX7_pass_80 hl (k := 3) rfl (nI_1 _) (by decide) rfl (fun ls hl => ?_)
            refine lv_goto (tgt := 2) hx hb dX7_pass_83 (by decide) ?_
            exact ih2 (i + 1) (by omega) (by omega) _ _ (hG.to (congrArg (fun q => wR Z AD q n) (congrArg (fun z => mu (asR z c) 8 c 0 ((asR z c) 8 c 0 + 1)) (if_neg h6).symm))) ls (lv_sub hl [2, 3, 0] rfl)
          · refine lv_aload_n hx hb dX7_pass_24 rfl (lv_at hl 1 rfl) ?_
            refine gg_get F hG (ci := 7) (v := .int ((haR (paR M c ns nm i) c ns nm) 8 c 0)) 0 gcX7 rfl (gR_state hc hn) (by decide) w4_39 rfl dX7_pass_25 ?_
            refine lv_bipush (v := 6) hx hb dX7_pass_28 (by decide) ?_
            refine lv_irem hx hb dX7_pass_30 (by decide) ?_
            refine lv_if_ne (tgt := 66) hx hb dX7_pass_31 (by decide) (fun h31 => ?_) (fun h31 => absurd h31 h6)
            refine lv_aload_n hx hb dX7_pass_66 rfl (lv_at hl 1 rfl) ?_
            refine gg_callV F hG (ci := 7) (As := []) (rest := []) (c_X7_answer Z l AD (haR (paR M c ns nm i) c ns nm) _ hn c hc (show okY (haR (paR M c ns nm i) c ns nm) c from okY_of hIi.2.2 (hrS_o (by omega) (by omega) (by omega)) (hrS_o (by omega) (by omega) (by omega)))) kY_X7_answer kV_X7_answer (gR_state hc hn) rfl rfl w5_11 rfl ⟨rfl, rfl⟩ ⟨(Nat.le_of_ble_eq_true rfl), (Nat.le_of_ble_eq_true rfl)⟩ rfl (Nat.le_of_ble_eq_true rfl) hl.1 ⟨Nat.zero_le _, Nat.zero_le _⟩ dX7_pass_67 rfl (fun H locs hG => ?_)
            refine lv_aload_n hx hb dX7_pass_70 rfl (lv_at hl 1 rfl) ?_
            refine lv_dup hx hb dX7_pass_71 rfl ?_
            refine gg_get F hG (ci := 7) (v := .int ((asR (haR (paR M c ns nm i) c ns nm) c) 8 c 0)) 0 gcX7 rfl (gR_state hc hn) (by decide) w4_39 rfl dX7_pass_72 ?_
            refine lv_iconst (v := 1) hx hb dX7_pass_75 (by decide) ?_
            refine lv_iadd hx hb dX7_pass_76 ?_
            refine gg_put F hG (ci := 7) 0 gcX7 rfl (gR_state hc hn) (by decide) w4_39 rfl rfl rfl (Nat.le_of_ble_eq_true rfl) (pR_8 hc) dX7_pass_77 (fun H locs hG => ?_)
            have hG : gG Z A sS (wR Z AD (mu (asR (haR (paR M c ns nm i) c ns nm) c) 8 c 0 (((asR (haR (paR M c ns nm i) c ns nm) c) 8 c 0) + 1)) n) H locs := hG
            refine lv_iinc (v := nI (i + 1)) (lv' := [(2, .int (nI (i + 1))), (3, .int (nI 0)), (0, .ref (AD (6 + c))), (1, .int (nI h))]) hx hb dX7_pass_80 hl (k := 3) rfl (nI_1 _) (by decide) rfl (fun ls hl => ?_)
            refine lv_goto (tgt := 2) hx hb dX7_pass_83 (by decide) ?_
            exact ih2 (i + 1) (by omega) (by omega) _ _ (hG.to (congrArg (fun q => wR Z AD q n) (congrArg (fun z => mu (asR z c) 8 c 0 ((asR z c) 8 c 0 + 1)) (if_neg h6).symm))) ls (lv_sub hl [2, 3, 0] rfl)
      · have hN : h = i := by omega
        subst hN
        refine lv_iload_n hx hb dX7_pass_2 rfl (lv_at hl 2 rfl) ?_
        refine lv_iload_n hx hb dX7_pass_3 rfl (lv_at hl 1 rfl) ?_
        refine lv_icmp_ge (tgt := 86) hx hb dX7_pass_4 (by decide) (fun h4 => ?_) (fun h4 => absurd (nI_le (Nat.le_refl _) (by omega)) h4)
        exact gg_vret F hG rfl dX7_pass_86
  exact loop2 (h + 1) 0 (Nat.zero_le _) (by omega) _ _ hG ls (lv_sub hl [1, 2, 0] rfl)
