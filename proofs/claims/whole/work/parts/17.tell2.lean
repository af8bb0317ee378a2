/-! what the club tells, by number; the checksum; the copy of a club -/
section GROWS7
variable {p : Program} {l : Launch} {e : Env} {R : Room} {s : State} {m : MethodId} {args : Array Value} {below : List Frame} {meth : Method} {c : Code} {H : Heap} {locs : List Loc} {cells slots : Nat} {Q : State → Prop}
variable {Z : gZ} {A : Nat → Prop} {ws ws' : va_W} {cc : ByteArray} {nL pc : Nat} {own : String} {ret : Option FieldType} {ls : Array Slot} {rest : List Value}
theorem gg_aastR (F : gF Z p m s args meth c cc nL own ret) (G : gG Z A s ws H locs) {a q0 t0 qk ci n v : Nat} {cA : ClassId} {r : vw_C} {vs : List Value} {f : Nat → Option Nat} {i : Int32} (he : ws[q0]? = some (a, .inl (cA, n, .inr (.inr (.inr (.inr f)))))) (ht : (gT Z)[t0]? = some (cA, .object r.1)) (hv : ws[qk]? = some (v, .inr (ci, vs))) (hc : vwCl[ci]? = some r) (hin : vp_in i n) (hw : ws.set q0 (a, .inl (cA, n, .inr (.inr (.inr (.inr (va_up f i.toNatClampNeg (some v))))))) = ws') (hdg : decode cc pc = .ok (.aastore, 1))
    (kk : ∀ (H1 : Heap) (locs1 : List Loc), gG Z A s ws' H1 locs1 → W p l e R s m args below meth c H1 locs1 cells slots Q (F0 m (pc + 1) ls rest)) : W p l e R s m args below meth c H locs cells slots Q (F0 m pc ls (.ref v :: .int i :: .ref a :: rest)) :=
  va_astq F.1 F.2.1 F.2.2.2.2.2.1.1 G.1 G.2.1 G.2.2.1 q0 t0 qk ci he ht hv hc hin hdg (fun H1 locs1 h1 h2 h3 => kk H1 locs1 ⟨hw ▸ h1, hw ▸ h2, h3, G.2.2.2⟩)
theorem gg_aastN (F : gF Z p m s args meth c cc nL own ret) (G : gG Z A s ws H locs) {a q0 t0 n : Nat} {cA : ClassId} {C : String} {f : Nat → Option Nat} {i : Int32} (he : ws[q0]? = some (a, .inl (cA, n, .inr (.inr (.inr (.inr f)))))) (ht : (gT Z)[t0]? = some (cA, .object C)) (hin : vp_in i n) (hw : ws.set q0 (a, .inl (cA, n, .inr (.inr (.inr (.inr (va_up f i.toNatClampNeg none)))))) = ws') (hdg : decode cc pc = .ok (.aastore, 1))
    (kk : ∀ (H1 : Heap) (locs1 : List Loc), gG Z A s ws' H1 locs1 → W p l e R s m args below meth c H1 locs1 cells slots Q (F0 m (pc + 1) ls rest)) : W p l e R s m args below meth c H locs cells slots Q (F0 m pc ls (.null :: .int i :: .ref a :: rest)) :=
  va_astqN F.1 F.2.1 F.2.2.2.2.2.1.1 G.1 G.2.1 G.2.2.1 q0 t0 he ht hin hdg (fun H1 locs1 h1 h2 h3 => kk H1 locs1 ⟨hw ▸ h1, hw ▸ h2, h3, G.2.2.2⟩)
end GROWS7
def cpA (M : St) (c ns : Nat) : Nat → St
  | 0 => M
  | k + 1 => mu (cpA M c ns k) 17 c k (if k < ns then 1 else 0)
theorem cpA_of {M : St} {c ns f a : Nat} (h : ¬ (f = 17 ∧ a = c)) : ∀ k, cpA M c ns k f a = M f a
  | 0 => rfl
  | k + 1 => by show mu (cpA M c ns k) 17 c k _ f a = _; rw [mu_ne h]; exact cpA_of h k
def cpB (M : St) (c e : Nat) : Nat → St
  | 0 => M
  | i + 1 => cpM (cpB M c e i) (8 * c + i) (8 * e + i)
theorem cpM_of {M : St} {j k f a : Nat} (h : ¬ (a = j)) : cpM M j k f a = M f a := by
  unfold cpM cpS
  rw [mu_ne (fun z => h z.2)]
  have h2 : ∀ X : St, cpN X j k 160 f a = X f a := by
    intro X
    unfold cpN
    by_cases hf : f = 16
    · subst hf; rw [if_pos rfl, if_neg h]
    · rw [if_neg hf]
  rw [h2, mu_ne (fun z => h z.2), mu_ne (fun z => h z.2), mu_ne (fun z => h z.2), mu_ne (fun z => h z.2), mu_ne (fun z => h z.2), mu_ne (fun z => h z.2), mu_ne (fun z => h z.2)]
theorem cpB_of {M : St} {c e f a : Nat} : ∀ i, ¬ (8 * c ≤ a ∧ a < 8 * c + i) → cpB M c e i f a = M f a
  | 0, _ => rfl
  | i + 1, h => by show cpM (cpB M c e i) (8 * c + i) (8 * e + i) f a = _; rw [cpM_of (by omega)]; exact cpB_of i (by omega)
theorem cpM_1 {M : St} {j k f : Nat} (h : f < 8) : cpM M j k f = M f := by
  unfold cpM cpS
  have h2 : ∀ X : St, cpN X j k 160 f = X f := by
    intro X
    unfold cpN
    rw [if_neg (by omega)]
  rw [mu_o (by omega), h2, mu_o (by omega), mu_o (by omega), mu_o (by omega), mu_o (by omega), mu_o (by omega), mu_o (by omega), mu_o (by omega)]
theorem cpB_1 {M : St} {c e f : Nat} (h : f < 8) : ∀ i, cpB M c e i f = M f
  | 0 => rfl
  | i + 1 => by show cpM (cpB M c e i) (8 * c + i) (8 * e + i) f = _; rw [cpM_1 h]; exact cpB_1 h i
/-- a club becomes another one: its hours and stations; its members; its letters -/
def cp1 (M : St) (c e ns : Nat) : St := cpA (mu (mu M 3 c 0 (M 3 e 0)) 1 c 0 (nI ns)) c ns 12
def cp2 (M : St) (c e ns nm : Nat) : St := cpB (mu (cp1 M c e ns) 2 c 0 (nI nm)) c e nm
def cpC (M : St) (c e ns nm : Nat) : St := cpN (mu (cp2 M c e ns nm) 15 (16 + c) 0 (cp2 M c e ns nm 15 (16 + e) 0)) (16 + c) (16 + e) 90
theorem cp2_of {M : St} {c e ns nm f a : Nat} (h : ¬ ((f = 3 ∨ f = 1 ∨ f = 17 ∨ f = 2) ∧ a = c)) (h2 : ¬ (8 * c ≤ a ∧ a < 8 * c + nm)) : cp2 M c e ns nm f a = M f a := by
  unfold cp2 cp1
  rw [cpB_of nm h2, mu_ne (by omega), cpA_of (by omega), mu_ne (by omega), mu_ne (by omega)]
set_option maxRecDepth 100000 in
set_option maxHeartbeats 4000000 in
theorem c_X0_tellStation_0 (Z : gZ) (l : Launch) (AD : Nat → Nat) (M : St) (n : Nat) (hn : 78 ≤ n) (c ns nm k : Nat) (hc : c < 2) (hS : okS M c ns n) (hM : okM M c nm) (hZ : okZ M c nm) (hk : k < ns) : gM Z l yX0_tellStation cX0_tellStation 4 (some .int) ({ frames := 3, cells := 0, slots := 0, locals := 69 } : Room) [.ref (AD (1 + c)), .int (nI k), .int (nI 0)] (wC Z AD M n) (some (.int (tesF M c nm k 0))) (wC Z AD M n) 0 0 := by
  refine gM_of (by decide +kernel) (Nat.le_of_ble_eq_true rfl) ?_
  intro pP eE sS mI aA bB mE cC A F hname hG ls hl
  have hx := F.1
  have hb := F.2.1
  have hl : lv_has ls 4 [(0, .ref (AD (1 + c))), (1, .int (nI k)), (2, .int (nI 0))] := hl
  have hns2 := hS.2.1
  have hns3 := hS.2.2.1
  refine lv_aload_n hx hb dX0_tellStation_0 rfl (lv_at hl 0 rfl) ?_
  refine lv_iload_n hx hb dX0_tellStation_1 rfl (lv_at hl 1 rfl) ?_
  refine gg_callV F hG (ci := 0) (As := [.int (nI k)]) (rest := []) (c_X0_stationAt Z l AD M _ hn c hc _ k hS hk) kY_X0_stationAt kV_X0_stationAt (gC_club hc hn) rfl rfl w1_224 rfl ⟨rfl, rfl⟩ ⟨(Nat.le_of_ble_eq_true rfl), (Nat.le_of_ble_eq_true rfl)⟩ rfl (Nat.le_of_ble_eq_true rfl) hl.1 ⟨Nat.zero_le _, Nat.zero_le _⟩ dX0_tellStation_2 rfl (fun H locs hG => ?_)
  refine lv_astore_n (lv' := [(3, .ref (AD (78 + k))), (0, .ref (AD (1 + c))), (1, .int (nI k)), (2, .int (nI 0))]) hx hb dX0_tellStation_5 rfl hl (by decide) rfl (fun ls hl => ?_)
  refine lv_aload_n hx hb dX0_tellStation_6 rfl (lv_at hl 0 rfl) ?_
  refine lv_ifnonnull (tgt := 12) hx hb dX0_tellStation_7 (by decide) ?_
  refine lv_iload_n hx hb dX0_tellStation_12 rfl (lv_at hl 3 rfl) ?_
  refine lv_tableIn (off := 35) (tgt := 48) hx hb dX0_tellStation_13 (by decide) (by decide) (by decide) (by decide) ?_
  refine lv_aload_n hx hb dX0_tellStation_48 rfl (lv_at hl 0 rfl) ?_
  refine gg_getN F hG (ci := 4) (v := .int (M 0 k 0)) 0 gcX4 rfl (gC_stat (by omega)) (by decide) wn_30 rfl dX0_tellStation_49 ?_
  exact gg_iret F hG rfl rfl rfl dX0_tellStation_52
set_option maxRecDepth 100000 in
set_option maxHeartbeats 4000000 in
theorem c_X0_tellStation_1 (Z : gZ) (l : Launch) (AD : Nat → Nat) (M : St) (n : Nat) (hn : 78 ≤ n) (c ns nm k : Nat) (hc : c < 2) (hS : okS M c ns n) (hM : okM M c nm) (hZ : okZ M c nm) (hk : k < ns) : gM Z l yX0_tellStation cX0_tellStation 4 (some .int) ({ frames := 3, cells := 0, slots := 0, locals := 69 } : Room) [.ref (AD (1 + c)), .int (nI k), .int (nI 1)] (wC Z AD M n) (some (.int (tesF M c nm k 1))) (wC Z AD M n) 0 0 := by
  refine gM_of (by decide +kernel) (Nat.le_of_ble_eq_true rfl) ?_
  intro pP eE sS mI aA bB mE cC A F hname hG ls hl
  have hx := F.1
  have hb := F.2.1
  have hl : lv_has ls 4 [(0, .ref (AD (1 + c))), (1, .int (nI k)), (2, .int (nI 1))] := hl
  have hns2 := hS.2.1
  have hns3 := hS.2.2.1
  refine lv_aload_n hx hb dX0_tellStation_0 rfl (lv_at hl 0 rfl) ?_
  refine lv_iload_n hx hb dX0_tellStation_1 rfl (lv_at hl 1 rfl) ?_
  refine gg_callV F hG (ci := 0) (As := [.int (nI k)]) (rest := []) (c_X0_stationAt Z l AD M _ hn c hc _ k hS hk) kY_X0_stationAt kV_X0_stationAt (gC_club hc hn) rfl rfl w1_224 rfl ⟨rfl, rfl⟩ ⟨(Nat.le_of_ble_eq_true rfl), (Nat.le_of_ble_eq_true rfl)⟩ rfl (Nat.le_of_ble_eq_true rfl) hl.1 ⟨Nat.zero_le _, Nat.zero_le _⟩ dX0_tellStation_2 rfl (fun H locs hG => ?_)
  refine lv_astore_n (lv' := [(3, .ref (AD (78 + k))), (0, .ref (AD (1 + c))), (1, .int (nI k)), (2, .int (nI 1))]) hx hb dX0_tellStation_5 rfl hl (by decide) rfl (fun ls hl => ?_)
  refine lv_aload_n hx hb dX0_tellStation_6 rfl (lv_at hl 0 rfl) ?_
  refine lv_ifnonnull (tgt := 12) hx hb dX0_tellStation_7 (by decide) ?_
  refine lv_iload_n hx hb dX0_tellStation_12 rfl (lv_at hl 3 rfl) ?_
  refine lv_tableIn (off := 40) (tgt := 53) hx hb dX0_tellStation_13 (by decide) (by decide) (by decide) (by decide) ?_
  refine lv_aload_n hx hb dX0_tellStation_53 rfl (lv_at hl 0 rfl) ?_
  refine gg_getN F hG (ci := 4) (v := .int (M 0 k 1)) 1 gcX4 rfl (gC_stat (by omega)) (by decide) wn_32 rfl dX0_tellStation_54 ?_
  exact gg_iret F hG rfl rfl rfl dX0_tellStation_57
set_option maxRecDepth 100000 in
set_option maxHeartbeats 4000000 in
theorem c_X0_tellStation_2 (Z : gZ) (l : Launch) (AD : Nat → Nat) (M : St) (n : Nat) (hn : 78 ≤ n) (c ns nm k : Nat) (hc : c < 2) (hS : okS M c ns n) (hM : okM M c nm) (hZ : okZ M c nm) (hk : k < ns) : gM Z l yX0_tellStation cX0_tellStation 4 (some .int) ({ frames := 3, cells := 0, slots := 0, locals := 69 } : Room) [.ref (AD (1 + c)), .int (nI k), .int (nI 2)] (wC Z AD M n) (some (.int (tesF M c nm k 2))) (wC Z AD M n) 0 0 := by
  refine gM_of (by decide +kernel) (Nat.le_of_ble_eq_true rfl) ?_
  intro pP eE sS mI aA bB mE cC A F hname hG ls hl
  have hx := F.1
  have hb := F.2.1
  have hl : lv_has ls 4 [(0, .ref (AD (1 + c))), (1, .int (nI k)), (2, .int (nI 2))] := hl
  have hns2 := hS.2.1
  have hns3 := hS.2.2.1
  refine lv_aload_n hx hb dX0_tellStation_0 rfl (lv_at hl 0 rfl) ?_
  refine lv_iload_n hx hb dX0_tellStation_1 rfl (lv_at hl 1 rfl) ?_
  refine gg_callV F hG (ci := 0) (As := [.int (nI k)]) (rest := []) (c_X0_stationAt Z l AD M _ hn c hc _ k hS hk) kY_X0_stationAt kV_X0_stationAt (gC_club hc hn) rfl rfl w1_224 rfl ⟨rfl, rfl⟩ ⟨(Nat.le_of_ble_eq_true rfl), (Nat.le_of_ble_eq_true rfl)⟩ rfl (Nat.le_of_ble_eq_true rfl) hl.1 ⟨Nat.zero_le _, Nat.zero_le _⟩ dX0_tellStation_2 rfl (fun H locs hG => ?_)
  refine lv_astore_n (lv' := [(3, .ref (AD (78 + k))), (0, .ref (AD (1 + c))), (1, .int (nI k)), (2, .int (nI 2))]) hx hb dX0_tellStation_5 rfl hl (by decide) rfl (fun ls hl => ?_)
  refine lv_aload_n hx hb dX0_tellStation_6 rfl (lv_at hl 0 rfl) ?_
  refine lv_ifnonnull (tgt := 12) hx hb dX0_tellStation_7 (by decide) ?_
  refine lv_iload_n hx hb dX0_tellStation_12 rfl (lv_at hl 3 rfl) ?_
  refine lv_tableIn (off := 45) (tgt := 58) hx hb dX0_tellStation_13 (by decide) (by decide) (by decide) (by decide) ?_
  refine lv_aload_n hx hb dX0_tellStation_58 rfl (lv_at hl 0 rfl) ?_
  refine gg_getN F hG (ci := 4) (v := .int (M 0 k 2)) 2 gcX4 rfl (gC_stat (by omega)) (by decide) wn_34 rfl dX0_tellStation_59 ?_
  exact gg_iret F hG rfl rfl rfl dX0_tellStation_62
set_option maxRecDepth 100000 in
set_option maxHeartbeats 4000000 in
theorem c_X0_tellStation_3 (Z : gZ) (l : Launch) (AD : Nat → Nat) (M : St) (n : Nat) (hn : 78 ≤ n) (c ns nm k : Nat) (hc : c < 2) (hS : okS M c ns n) (hM : okM M c nm) (hZ : okZ M c nm) (hk : k < ns) : gM Z l yX0_tellStation cX0_tellStation 4 (some .int) ({ frames := 3, cells := 0, slots := 0, locals := 69 } : Room) [.ref (AD (1 + c)), .int (nI k), .int (nI 3)] (wC Z AD M n) (some (.int (tesF M c nm k 3))) (wC Z AD M n) 0 0 := by
  refine gM_of (by decide +kernel) (Nat.le_of_ble_eq_true rfl) ?_
  intro pP eE sS mI aA bB mE cC A F hname hG ls hl
  have hx := F.1
  have hb := F.2.1
  have hl : lv_has ls 4 [(0, .ref (AD (1 + c))), (1, .int (nI k)), (2, .int (nI 3))] := hl
  have hns2 := hS.2.1
  have hns3 := hS.2.2.1
  refine lv_aload_n hx hb dX0_tellStation_0 rfl (lv_at hl 0 rfl) ?_
  refine lv_iload_n hx hb dX0_tellStation_1 rfl (lv_at hl 1 rfl) ?_
  refine gg_callV F hG (ci := 0) (As := [.int (nI k)]) (rest := []) (c_X0_stationAt Z l AD M _ hn c hc _ k hS hk) kY_X0_stationAt kV_X0_stationAt (gC_club hc hn) rfl rfl w1_224 rfl ⟨rfl, rfl⟩ ⟨(Nat.le_of_ble_eq_true rfl), (Nat.le_of_ble_eq_true rfl)⟩ rfl (Nat.le_of_ble_eq_true rfl) hl.1 ⟨Nat.zero_le _, Nat.zero_le _⟩ dX0_tellStation_2 rfl (fun H locs hG => ?_)
  refine lv_astore_n (lv' := [(3, .ref (AD (78 + k))), (0, .ref (AD (1 + c))), (1, .int (nI k)), (2, .int (nI 3))]) hx hb dX0_tellStation_5 rfl hl (by decide) rfl (fun ls hl => ?_)
  refine lv_aload_n hx hb dX0_tellStation_6 rfl (lv_at hl 0 rfl) ?_
  refine lv_ifnonnull (tgt := 12) hx hb dX0_tellStation_7 (by decide) ?_
  refine lv_iload_n hx hb dX0_tellStation_12 rfl (lv_at hl 3 rfl) ?_
  refine lv_tableIn (off := 50) (tgt := 63) hx hb dX0_tellStation_13 (by decide) (by decide) (by decide) (by decide) ?_
  refine lv_aload_n hx hb dX0_tellStation_63 rfl (lv_at hl 0 rfl) ?_
  refine lv_aload_n hx hb dX0_tellStation_64 rfl (lv_at hl 1 rfl) ?_
  refine gg_get F hG (ci := 0) (v := .int (M 3 c 0)) 6 gcX0 rfl (gC_club hc hn) (by decide) w1_149 rfl dX0_tellStation_65 ?_
  refine gg_callV F hG (ci := 4) (As := [.int (M 3 c 0)]) (rest := []) (c_X4_isOnAir Z l AD M _ hn k (by omega) (M 3 c 0)) kY_X4_isOnAir kV_X4_isOnAir (gC_stat (by omega)) rfl rfl w1_228 rfl ⟨rfl, rfl⟩ ⟨(Nat.le_of_ble_eq_true rfl), (Nat.le_of_ble_eq_true rfl)⟩ rfl (Nat.le_of_ble_eq_true rfl) hl.1 ⟨Nat.zero_le _, Nat.zero_le _⟩ dX0_tellStation_68 rfl (fun H locs hG => ?_)
  refine lv_if_eq (tgt := 78) hx hb dX0_tellStation_71 (by decide) (fun h71 => ?_) (fun h71 => ?_)
  · refine lv_iconst (v := 0) hx hb dX0_tellStation_78 (by decide) ?_
    exact gg_iret F hG rfl (Eq.symm (if_pos h71)) rfl dX0_tellStation_79
  · refine lv_iconst (v := 1) hx hb dX0_tellStation_74 (by decide) ?_
    refine lv_goto (tgt := 79) hx hb dX0_tellStation_75 (by decide) ?_
    exact gg_iret F hG rfl (Eq.symm (if_neg h71)) rfl dX0_tellStation_79
set_option maxRecDepth 100000 in
set_option maxHeartbeats 4000000 in
theorem c_X0_tellStation_4 (Z : gZ) (l : Launch) (AD : Nat → Nat) (M : St) (n : Nat) (hn : 78 ≤ n) (c ns nm k : Nat) (hc : c < 2) (hS : okS M c ns n) (hM : okM M c nm) (hZ : okZ M c nm) (hk : k < ns) : gM Z l yX0_tellStation cX0_tellStation 4 (some .int) ({ frames := 3, cells := 0, slots := 0, locals := 69 } : Room) [.ref (AD (1 + c)), .int (nI k), .int (nI 4)] (wC Z AD M n) (some (.int (tesF M c nm k 4))) (wC Z AD M n) 0 0 := by
  refine gM_of (by decide +kernel) (Nat.le_of_ble_eq_true rfl) ?_
  intro pP eE sS mI aA bB mE cC A F hname hG ls hl
  have hx := F.1
  have hb := F.2.1
  have hl : lv_has ls 4 [(0, .ref (AD (1 + c))), (1, .int (nI k)), (2, .int (nI 4))] := hl
  have hns2 := hS.2.1
  have hns3 := hS.2.2.1
  refine lv_aload_n hx hb dX0_tellStation_0 rfl (lv_at hl 0 rfl) ?_
  refine lv_iload_n hx hb dX0_tellStation_1 rfl (lv_at hl 1 rfl) ?_
  refine gg_callV F hG (ci := 0) (As := [.int (nI k)]) (rest := []) (c_X0_stationAt Z l AD M _ hn c hc _ k hS hk) kY_X0_stationAt kV_X0_stationAt (gC_club hc hn) rfl rfl w1_224 rfl ⟨rfl, rfl⟩ ⟨(Nat.le_of_ble_eq_true rfl), (Nat.le_of_ble_eq_true rfl)⟩ rfl (Nat.le_of_ble_eq_true rfl) hl.1 ⟨Nat.zero_le _, Nat.zero_le _⟩ dX0_tellStation_2 rfl (fun H locs hG => ?_)
  refine lv_astore_n (lv' := [(3, .ref (AD (78 + k))), (0, .ref (AD (1 + c))), (1, .int (nI k)), (2, .int (nI 4))]) hx hb dX0_tellStation_5 rfl hl (by decide) rfl (fun ls hl => ?_)
  refine lv_aload_n hx hb dX0_tellStation_6 rfl (lv_at hl 0 rfl) ?_
  refine lv_ifnonnull (tgt := 12) hx hb dX0_tellStation_7 (by decide) ?_
  refine lv_iload_n hx hb dX0_tellStation_12 rfl (lv_at hl 3 rfl) ?_
  refine lv_tableIn (off := 67) (tgt := 80) hx hb dX0_tellStation_13 (by decide) (by decide) (by decide) (by decide) ?_
  refine lv_aload_n hx hb dX0_tellStation_80 rfl (lv_at hl 0 rfl) ?_
  refine lv_aload_n hx hb dX0_tellStation_81 rfl (lv_at hl 1 rfl) ?_
  refine gg_get F hG (ci := 0) (v := .int (M 3 c 0)) 6 gcX0 rfl (gC_club hc hn) (by decide) w1_149 rfl dX0_tellStation_82 ?_
  refine gg_callV F hG (ci := 4) (As := [.int (M 3 c 0)]) (rest := []) (c_X4_fading Z l AD M _ hn k (by omega) (M 3 c 0)) kY_X4_fading kV_X4_fading (gC_stat (by omega)) rfl rfl w2_5 rfl ⟨rfl, rfl⟩ ⟨(Nat.le_of_ble_eq_true rfl), (Nat.le_of_ble_eq_true rfl)⟩ rfl (Nat.le_of_ble_eq_true rfl) hl.1 ⟨Nat.zero_le _, Nat.zero_le _⟩ dX0_tellStation_85 rfl (fun H locs hG => ?_)
  exact gg_iret F hG rfl rfl rfl dX0_tellStation_88
set_option maxRecDepth 100000 in
set_option maxHeartbeats 4000000 in
theorem c_X0_tellStation_5 (Z : gZ) (l : Launch) (AD : Nat → Nat) (M : St) (n : Nat) (hn : 78 ≤ n) (c ns nm k : Nat) (hc : c < 2) (hS : okS M c ns n) (hM : okM M c nm) (hZ : okZ M c nm) (hk : k < ns) : gM Z l yX0_tellStation cX0_tellStation 4 (some .int) ({ frames := 3, cells := 0, slots := 0, locals := 69 } : Room) [.ref (AD (1 + c)), .int (nI k), .int (nI 5)] (wC Z AD M n) (some (.int (tesF M c nm k 5))) (wC Z AD M n) 0 0 := by
  refine gM_of (by decide +kernel) (Nat.le_of_ble_eq_true rfl) ?_
  intro pP eE sS mI aA bB mE cC A F hname hG ls hl
  have hx := F.1
  have hb := F.2.1
  have hl : lv_has ls 4 [(0, .ref (AD (1 + c))), (1, .int (nI k)), (2, .int (nI 5))] := hl
  have hns2 := hS.2.1
  have hns3 := hS.2.2.1
  refine lv_aload_n hx hb dX0_tellStation_0 rfl (lv_at hl 0 rfl) ?_
  refine lv_iload_n hx hb dX0_tellStation_1 rfl (lv_at hl 1 rfl) ?_
  refine gg_callV F hG (ci := 0) (As := [.int (nI k)]) (rest := []) (c_X0_stationAt Z l AD M _ hn c hc _ k hS hk) kY_X0_stationAt kV_X0_stationAt (gC_club hc hn) rfl rfl w1_224 rfl ⟨rfl, rfl⟩ ⟨(Nat.le_of_ble_eq_true rfl), (Nat.le_of_ble_eq_true rfl)⟩ rfl (Nat.le_of_ble_eq_true rfl) hl.1 ⟨Nat.zero_le _, Nat.zero_le _⟩ dX0_tellStation_2 rfl (fun H locs hG => ?_)
  refine lv_astore_n (lv' := [(3, .ref (AD (78 + k))), (0, .ref (AD (1 + c))), (1, .int (nI k)), (2, .int (nI 5))]) hx hb dX0_tellStation_5 rfl hl (by decide) rfl (fun ls hl => ?_)
  refine lv_aload_n hx hb dX0_tellStation_6 rfl (lv_at hl 0 rfl) ?_
  refine lv_ifnonnull (tgt := 12) hx hb dX0_tellStation_7 (by decide) ?_
  refine lv_iload_n hx hb dX0_tellStation_12 rfl (lv_at hl 3 rfl) ?_
  refine lv_tableOut (tgt := 89) hx hb dX0_tellStation_13 (by decide) (by decide) ?_
  refine lv_aload_n hx hb dX0_tellStation_89 rfl (lv_at hl 1 rfl) ?_
  refine lv_iload_n hx hb dX0_tellStation_90 rfl (lv_at hl 2 rfl) ?_
  refine gg_callV F hG (ci := 0) (As := [.int (nI k)]) (rest := []) (c_X0_membersWithCardOf Z l AD M _ hn c _ k hc hM hZ) kY_X0_membersWithCardOf kV_X0_membersWithCardOf (gC_club hc hn) rfl rfl w2_9 rfl ⟨rfl, rfl⟩ ⟨(Nat.le_of_ble_eq_true rfl), (Nat.le_of_ble_eq_true rfl)⟩ rfl (Nat.le_of_ble_eq_true rfl) hl.1 ⟨Nat.zero_le _, Nat.zero_le _⟩ dX0_tellStation_91 rfl (fun H locs hG => ?_)
  exact gg_iret F hG rfl rfl rfl dX0_tellStation_94
theorem c_X0_tellStation (Z : gZ) (l : Launch) (AD : Nat → Nat) (M : St) (n : Nat) (hn : 78 ≤ n) (c ns nm k : Nat) (hc : c < 2) (hS : okS M c ns n) (hM : okM M c nm) (hZ : okZ M c nm) (hk : k < ns) (v : Nat) (hv : v < 6) : gM Z l yX0_tellStation cX0_tellStation 4 (some .int) ({ frames := 3, cells := 0, slots := 0, locals := 69 } : Room) [.ref (AD (1 + c)), .int (nI k), .int (nI v)] (wC Z AD M n) (some (.int (tesF M c nm k v))) (wC Z AD M n) 0 0 := by
  match v, hv with
  | 0, _ => exact c_X0_tellStation_0 Z l AD M n hn c ns nm k hc hS hM hZ hk
  | 1, _ => exact c_X0_tellStation_1 Z l AD M n hn c ns nm k hc hS hM hZ hk
  | 2, _ => exact c_X0_tellStation_2 Z l AD M n hn c ns nm k hc hS hM hZ hk
  | 3, _ => exact c_X0_tellStation_3 Z l AD M n hn c ns nm k hc hS hM hZ hk
  | 4, _ => exact c_X0_tellStation_4 Z l AD M n hn c ns nm k hc hS hM hZ hk
  | 5, _ => exact c_X0_tellStation_5 Z l AD M n hn c ns nm k hc hS hM hZ hk
  | q + 6, h => exact absurd h (by omega)
set_option maxRecDepth 100000 in
set_option maxHeartbeats 4000000 in
theorem c_X0_tellMember_0 (Z : gZ) (l : Launch) (AD : Nat → Nat) (M : St) (n : Nat) (hn : 78 ≤ n) (c ns nm i : Nat) (hc : c < 2) (hS : okS M c ns n) (hM : okM M c nm) (hZ : okZ M c nm) (hi : i < nm) : gM Z l yX0_tellMember cX0_tellMember 4 (some .int) ({ frames := 3, cells := 0, slots := 0, locals := 70 } : Room) [.ref (AD (1 + c)), .int (nI i), .int (nI 0)] (wC Z AD M n) (some (.int (temF M ns (8 * c + i) 0))) (wC Z AD M n) 0 0 := by
  refine gM_of (by decide +kernel) (Nat.le_of_ble_eq_true rfl) ?_
  intro pP eE sS mI aA bB mE cC A F hname hG ls hl
  have hx := F.1
  have hb := F.2.1
  have hl : lv_has ls 4 [(0, .ref (AD (1 + c))), (1, .int (nI i)), (2, .int (nI 0))] := hl
  have hnm2 := hM.2
  have hZ1 := (hZ i hi).2
  refine lv_aload_n hx hb dX0_tellMember_0 rfl (lv_at hl 0 rfl) ?_
  refine lv_iload_n hx hb dX0_tellMember_1 rfl (lv_at hl 1 rfl) ?_
  refine gg_callV F hG (ci := 0) (As := [.int (nI i)]) (rest := []) (c_X0_memberAt Z l AD M _ hn c hc _ i hM hi) kY_X0_memberAt kV_X0_memberAt (gC_club hc hn) rfl rfl w1_186 rfl ⟨rfl, rfl⟩ ⟨(Nat.le_of_ble_eq_true rfl), (Nat.le_of_ble_eq_true rfl)⟩ rfl (Nat.le_of_ble_eq_true rfl) hl.1 ⟨Nat.zero_le _, Nat.zero_le _⟩ dX0_tellMember_2 rfl (fun H locs hG => ?_)
  refine lv_astore_n (lv' := [(3, .ref (AD (26 + (8 * c + i)))), (0, .ref (AD (1 + c))), (1, .int (nI i)), (2, .int (nI 0))]) hx hb dX0_tellMember_5 rfl hl (by decide) rfl (fun ls hl => ?_)
  refine lv_aload_n hx hb dX0_tellMember_6 rfl (lv_at hl 0 rfl) ?_
  refine lv_ifnonnull (tgt := 12) hx hb dX0_tellMember_7 (by decide) ?_
  refine lv_iload_n hx hb dX0_tellMember_12 rfl (lv_at hl 3 rfl) ?_
  refine lv_tableIn (off := 51) (tgt := 64) hx hb dX0_tellMember_13 (by decide) (by decide) (by decide) (by decide) ?_
  refine lv_aload_n hx hb dX0_tellMember_64 rfl (lv_at hl 0 rfl) ?_
  refine gg_getN F hG (ci := 3) (v := .ref (AD (9 + (8 * c + i)))) 0 gcX3 rfl (gC_memb (by omega) hn) (by decide) wn_16 rfl dX0_tellMember_65 ?_
  refine gg_getN F hG (ci := 1) (v := .int (M 8 (8 * c + i) 0)) 0 gcX1 rfl (gC_cset (by omega) hn) (by decide) wn_2 rfl dX0_tellMember_68 ?_
  exact gg_iret F hG rfl rfl rfl dX0_tellMember_71
set_option maxRecDepth 100000 in
set_option maxHeartbeats 4000000 in
theorem c_X0_tellMember_1 (Z : gZ) (l : Launch) (AD : Nat → Nat) (M : St) (n : Nat) (hn : 78 ≤ n) (c ns nm i : Nat) (hc : c < 2) (hS : okS M c ns n) (hM : okM M c nm) (hZ : okZ M c nm) (hi : i < nm) : gM Z l yX0_tellMember cX0_tellMember 4 (some .int) ({ frames := 3, cells := 0, slots := 0, locals := 70 } : Room) [.ref (AD (1 + c)), .int (nI i), .int (nI 1)] (wC Z AD M n) (some (.int (temF M ns (8 * c + i) 1))) (wC Z AD M n) 0 0 := by
  refine gM_of (by decide +kernel) (Nat.le_of_ble_eq_true rfl) ?_
  intro pP eE sS mI aA bB mE cC A F hname hG ls hl
  have hx := F.1
  have hb := F.2.1
  have hl : lv_has ls 4 [(0, .ref (AD (1 + c))), (1, .int (nI i)), (2, .int (nI 1))] := hl
  have hnm2 := hM.2
  have hZ1 := (hZ i hi).2
  refine lv_aload_n hx hb dX0_tellMember_0 rfl (lv_at hl 0 rfl) ?_
  refine lv_iload_n hx hb dX0_tellMember_1 rfl (lv_at hl 1 rfl) ?_
  refine gg_callV F hG (ci := 0) (As := [.int (nI i)]) (rest := []) (c_X0_memberAt Z l AD M _ hn c hc _ i hM hi) kY_X0_memberAt kV_X0_memberAt (gC_club hc hn) rfl rfl w1_186 rfl ⟨rfl, rfl⟩ ⟨(Nat.le_of_ble_eq_true rfl), (Nat.le_of_ble_eq_true rfl)⟩ rfl (Nat.le_of_ble_eq_true rfl) hl.1 ⟨Nat.zero_le _, Nat.zero_le _⟩ dX0_tellMember_2 rfl (fun H locs hG => ?_)
  refine lv_astore_n (lv' := [(3, .ref (AD (26 + (8 * c + i)))), (0, .ref (AD (1 + c))), (1, .int (nI i)), (2, .int (nI 1))]) hx hb dX0_tellMember_5 rfl hl (by decide) rfl (fun ls hl => ?_)
  refine lv_aload_n hx hb dX0_tellMember_6 rfl (lv_at hl 0 rfl) ?_
  refine lv_ifnonnull (tgt := 12) hx hb dX0_tellMember_7 (by decide) ?_
  refine lv_iload_n hx hb dX0_tellMember_12 rfl (lv_at hl 3 rfl) ?_
  refine lv_tableIn (off := 59) (tgt := 72) hx hb dX0_tellMember_13 (by decide) (by decide) (by decide) (by decide) ?_
  refine lv_aload_n hx hb dX0_tellMember_72 rfl (lv_at hl 0 rfl) ?_
  refine gg_getN F hG (ci := 3) (v := .ref (AD (9 + (8 * c + i)))) 0 gcX3 rfl (gC_memb (by omega) hn) (by decide) wn_16 rfl dX0_tellMember_73 ?_
  refine gg_getN F hG (ci := 1) (v := .int (M 9 (8 * c + i) 0)) 1 gcX1 rfl (gC_cset (by omega) hn) (by decide) wn_4 rfl dX0_tellMember_76 ?_
  exact gg_iret F hG rfl rfl rfl dX0_tellMember_79
set_option maxRecDepth 100000 in
set_option maxHeartbeats 4000000 in
theorem c_X0_tellMember_2 (Z : gZ) (l : Launch) (AD : Nat → Nat) (M : St) (n : Nat) (hn : 78 ≤ n) (c ns nm i : Nat) (hc : c < 2) (hS : okS M c ns n) (hM : okM M c nm) (hZ : okZ M c nm) (hi : i < nm) : gM Z l yX0_tellMember cX0_tellMember 4 (some .int) ({ frames := 3, cells := 0, slots := 0, locals := 70 } : Room) [.ref (AD (1 + c)), .int (nI i), .int (nI 2)] (wC Z AD M n) (some (.int (temF M ns (8 * c + i) 2))) (wC Z AD M n) 0 0 := by
  refine gM_of (by decide +kernel) (Nat.le_of_ble_eq_true rfl) ?_
  intro pP eE sS mI aA bB mE cC A F hname hG ls hl
  have hx := F.1
  have hb := F.2.1
  have hl : lv_has ls 4 [(0, .ref (AD (1 + c))), (1, .int (nI i)), (2, .int (nI 2))] := hl
  have hnm2 := hM.2
  have hZ1 := (hZ i hi).2
  refine lv_aload_n hx hb dX0_tellMember_0 rfl (lv_at hl 0 rfl) ?_
  refine lv_iload_n hx hb dX0_tellMember_1 rfl (lv_at hl 1 rfl) ?_
  refine gg_callV F hG (ci := 0) (As := [.int (nI i)]) (rest := []) (c_X0_memberAt Z l AD M _ hn c hc _ i hM hi) kY_X0_memberAt kV_X0_memberAt (gC_club hc hn) rfl rfl w1_186 rfl ⟨rfl, rfl⟩ ⟨(Nat.le_of_ble_eq_true rfl), (Nat.le_of_ble_eq_true rfl)⟩ rfl (Nat.le_of_ble_eq_true rfl) hl.1 ⟨Nat.zero_le _, Nat.zero_le _⟩ dX0_tellMember_2 rfl (fun H locs hG => ?_)
  refine lv_astore_n (lv' := [(3, .ref (AD (26 + (8 * c + i)))), (0, .ref (AD (1 + c))), (1, .int (nI i)), (2, .int (nI 2))]) hx hb dX0_tellMember_5 rfl hl (by decide) rfl (fun ls hl => ?_)
  refine lv_aload_n hx hb dX0_tellMember_6 rfl (lv_at hl 0 rfl) ?_
  refine lv_ifnonnull (tgt := 12) hx hb dX0_tellMember_7 (by decide) ?_
  refine lv_iload_n hx hb dX0_tellMember_12 rfl (lv_at hl 3 rfl) ?_
  refine lv_tableIn (off := 67) (tgt := 80) hx hb dX0_tellMember_13 (by decide) (by decide) (by decide) (by decide) ?_
  refine lv_aload_n hx hb dX0_tellMember_80 rfl (lv_at hl 0 rfl) ?_
  refine gg_getN F hG (ci := 3) (v := .ref (AD (9 + (8 * c + i)))) 0 gcX3 rfl (gC_memb (by omega) hn) (by decide) wn_16 rfl dX0_tellMember_81 ?_
  refine gg_getN F hG (ci := 1) (v := .int (M 10 (8 * c + i) 0)) 2 gcX1 rfl (gC_cset (by omega) hn) (by decide) wn_6 rfl dX0_tellMember_84 ?_
  exact gg_iret F hG rfl rfl rfl dX0_tellMember_87
set_option maxRecDepth 100000 in
set_option maxHeartbeats 4000000 in
theorem c_X0_tellMember_3 (Z : gZ) (l : Launch) (AD : Nat → Nat) (M : St) (n : Nat) (hn : 78 ≤ n) (c ns nm i : Nat) (hc : c < 2) (hS : okS M c ns n) (hM : okM M c nm) (hZ : okZ M c nm) (hi : i < nm) : gM Z l yX0_tellMember cX0_tellMember 4 (some .int) ({ frames := 3, cells := 0, slots := 0, locals := 70 } : Room) [.ref (AD (1 + c)), .int (nI i), .int (nI 3)] (wC Z AD M n) (some (.int (temF M ns (8 * c + i) 3))) (wC Z AD M n) 0 0 := by
  refine gM_of (by decide +kernel) (Nat.le_of_ble_eq_true rfl) ?_
  intro pP eE sS mI aA bB mE cC A F hname hG ls hl
  have hx := F.1
  have hb := F.2.1
  have hl : lv_has ls 4 [(0, .ref (AD (1 + c))), (1, .int (nI i)), (2, .int (nI 3))] := hl
  have hnm2 := hM.2
  have hZ1 := (hZ i hi).2
  refine lv_aload_n hx hb dX0_tellMember_0 rfl (lv_at hl 0 rfl) ?_
  refine lv_iload_n hx hb dX0_tellMember_1 rfl (lv_at hl 1 rfl) ?_
  refine gg_callV F hG (ci := 0) (As := [.int (nI i)]) (rest := []) (c_X0_memberAt Z l AD M _ hn c hc _ i hM hi) kY_X0_memberAt kV_X0_memberAt (gC_club hc hn) rfl rfl w1_186 rfl ⟨rfl, rfl⟩ ⟨(Nat.le_of_ble_eq_true rfl), (Nat.le_of_ble_eq_true rfl)⟩ rfl (Nat.le_of_ble_eq_true rfl) hl.1 ⟨Nat.zero_le _, Nat.zero_le _⟩ dX0_tellMember_2 rfl (fun H locs hG => ?_)
  refine lv_astore_n (lv' := [(3, .ref (AD (26 + (8 * c + i)))), (0, .ref (AD (1 + c))), (1, .int (nI i)), (2, .int (nI 3))]) hx hb dX0_tellMember_5 rfl hl (by decide) rfl (fun ls hl => ?_)
  refine lv_aload_n hx hb dX0_tellMember_6 rfl (lv_at hl 0 rfl) ?_
  refine lv_ifnonnull (tgt := 12) hx hb dX0_tellMember_7 (by decide) ?_
  refine lv_iload_n hx hb dX0_tellMember_12 rfl (lv_at hl 3 rfl) ?_
  refine lv_tableIn (off := 75) (tgt := 88) hx hb dX0_tellMember_13 (by decide) (by decide) (by decide) (by decide) ?_
  refine lv_aload_n hx hb dX0_tellMember_88 rfl (lv_at hl 0 rfl) ?_
  refine gg_getN F hG (ci := 3) (v := .ref (AD (9 + (8 * c + i)))) 0 gcX3 rfl (gC_memb (by omega) hn) (by decide) wn_16 rfl dX0_tellMember_89 ?_
  refine gg_getN F hG (ci := 1) (v := .int (M 11 (8 * c + i) 0)) 3 gcX1 rfl (gC_cset (by omega) hn) (by decide) wn_9 rfl dX0_tellMember_92 ?_
  exact gg_iret F hG rfl rfl rfl dX0_tellMember_95
set_option maxRecDepth 100000 in
set_option maxHeartbeats 4000000 in
theorem c_X0_tellMember_4 (Z : gZ) (l : Launch) (AD : Nat → Nat) (M : St) (n : Nat) (hn : 78 ≤ n) (c ns nm i : Nat) (hc : c < 2) (hS : okS M c ns n) (hM : okM M c nm) (hZ : okZ M c nm) (hi : i < nm) : gM Z l yX0_tellMember cX0_tellMember 4 (some .int) ({ frames := 3, cells := 0, slots := 0, locals := 70 } : Room) [.ref (AD (1 + c)), .int (nI i), .int (nI 4)] (wC Z AD M n) (some (.int (temF M ns (8 * c + i) 4))) (wC Z AD M n) 0 0 := by
  refine gM_of (by decide +kernel) (Nat.le_of_ble_eq_true rfl) ?_
  intro pP eE sS mI aA bB mE cC A F hname hG ls hl
  have hx := F.1
  have hb := F.2.1
  have hl : lv_has ls 4 [(0, .ref (AD (1 + c))), (1, .int (nI i)), (2, .int (nI 4))] := hl
  have hnm2 := hM.2
  have hZ1 := (hZ i hi).2
  refine lv_aload_n hx hb dX0_tellMember_0 rfl (lv_at hl 0 rfl) ?_
  refine lv_iload_n hx hb dX0_tellMember_1 rfl (lv_at hl 1 rfl) ?_
  refine gg_callV F hG (ci := 0) (As := [.int (nI i)]) (rest := []) (c_X0_memberAt Z l AD M _ hn c hc _ i hM hi) kY_X0_memberAt kV_X0_memberAt (gC_club hc hn) rfl rfl w1_186 rfl ⟨rfl, rfl⟩ ⟨(Nat.le_of_ble_eq_true rfl), (Nat.le_of_ble_eq_true rfl)⟩ rfl (Nat.le_of_ble_eq_true rfl) hl.1 ⟨Nat.zero_le _, Nat.zero_le _⟩ dX0_tellMember_2 rfl (fun H locs hG => ?_)
  refine lv_astore_n (lv' := [(3, .ref (AD (26 + (8 * c + i)))), (0, .ref (AD (1 + c))), (1, .int (nI i)), (2, .int (nI 4))]) hx hb dX0_tellMember_5 rfl hl (by decide) rfl (fun ls hl => ?_)
  refine lv_aload_n hx hb dX0_tellMember_6 rfl (lv_at hl 0 rfl) ?_
  refine lv_ifnonnull (tgt := 12) hx hb dX0_tellMember_7 (by decide) ?_
  refine lv_iload_n hx hb dX0_tellMember_12 rfl (lv_at hl 3 rfl) ?_
  refine lv_tableIn (off := 83) (tgt := 96) hx hb dX0_tellMember_13 (by decide) (by decide) (by decide) (by decide) ?_
  refine lv_aload_n hx hb dX0_tellMember_96 rfl (lv_at hl 0 rfl) ?_
  refine gg_getN F hG (ci := 3) (v := .int (M 14 (8 * c + i) 0)) 2 gcX3 rfl (gC_memb (by omega) hn) (by decide) wn_21 rfl dX0_tellMember_97 ?_
  refine lv_if_eq (tgt := 107) hx hb dX0_tellMember_100 (by decide) (fun h100 => ?_) (fun h100 => ?_)
  · refine lv_iconst (v := 0) hx hb dX0_tellMember_107 (by decide) ?_
    exact gg_iret F hG rfl (Eq.symm (if_pos h100)) rfl dX0_tellMember_108
  · refine lv_iconst (v := 1) hx hb dX0_tellMember_103 (by decide) ?_
    refine lv_goto (tgt := 108) hx hb dX0_tellMember_104 (by decide) ?_
    exact gg_iret F hG rfl (Eq.symm (if_neg h100)) rfl dX0_tellMember_108
set_option maxRecDepth 100000 in
set_option maxHeartbeats 4000000 in
theorem c_X0_tellMember_5 (Z : gZ) (l : Launch) (AD : Nat → Nat) (M : St) (n : Nat) (hn : 78 ≤ n) (c ns nm i : Nat) (hc : c < 2) (hS : okS M c ns n) (hM : okM M c nm) (hZ : okZ M c nm) (hi : i < nm) : gM Z l yX0_tellMember cX0_tellMember 4 (some .int) ({ frames := 3, cells := 0, slots := 0, locals := 70 } : Room) [.ref (AD (1 + c)), .int (nI i), .int (nI 5)] (wC Z AD M n) (some (.int (temF M ns (8 * c + i) 5))) (wC Z AD M n) 0 0 := by
  refine gM_of (by decide +kernel) (Nat.le_of_ble_eq_true rfl) ?_
  intro pP eE sS mI aA bB mE cC A F hname hG ls hl
  have hx := F.1
  have hb := F.2.1
  have hl : lv_has ls 4 [(0, .ref (AD (1 + c))), (1, .int (nI i)), (2, .int (nI 5))] := hl
  have hnm2 := hM.2
  have hZ1 := (hZ i hi).2
  refine lv_aload_n hx hb dX0_tellMember_0 rfl (lv_at hl 0 rfl) ?_
  refine lv_iload_n hx hb dX0_tellMember_1 rfl (lv_at hl 1 rfl) ?_
  refine gg_callV F hG (ci := 0) (As := [.int (nI i)]) (rest := []) (c_X0_memberAt Z l AD M _ hn c hc _ i hM hi) kY_X0_memberAt kV_X0_memberAt (gC_club hc hn) rfl rfl w1_186 rfl ⟨rfl, rfl⟩ ⟨(Nat.le_of_ble_eq_true rfl), (Nat.le_of_ble_eq_true rfl)⟩ rfl (Nat.le_of_ble_eq_true rfl) hl.1 ⟨Nat.zero_le _, Nat.zero_le _⟩ dX0_tellMember_2 rfl (fun H locs hG => ?_)
  refine lv_astore_n (lv' := [(3, .ref (AD (26 + (8 * c + i)))), (0, .ref (AD (1 + c))), (1, .int (nI i)), (2, .int (nI 5))]) hx hb dX0_tellMember_5 rfl hl (by decide) rfl (fun ls hl => ?_)
  refine lv_aload_n hx hb dX0_tellMember_6 rfl (lv_at hl 0 rfl) ?_
  refine lv_ifnonnull (tgt := 12) hx hb dX0_tellMember_7 (by decide) ?_
  refine lv_iload_n hx hb dX0_tellMember_12 rfl (lv_at hl 3 rfl) ?_
  refine lv_tableIn (off := 96) (tgt := 109) hx hb dX0_tellMember_13 (by decide) (by decide) (by decide) (by decide) ?_
  refine lv_aload_n hx hb dX0_tellMember_109 rfl (lv_at hl 0 rfl) ?_
  refine gg_getN F hG (ci := 3) (v := .ref (AD (9 + (8 * c + i)))) 0 gcX3 rfl (gC_memb (by omega) hn) (by decide) wn_16 rfl dX0_tellMember_110 ?_
  refine gg_getN F hG (ci := 1) (v := .int (M 12 (8 * c + i) 0)) 4 gcX1 rfl (gC_cset (by omega) hn) (by decide) wn_10 rfl dX0_tellMember_113 ?_
  exact gg_iret F hG rfl rfl rfl dX0_tellMember_116
set_option maxRecDepth 100000 in
set_option maxHeartbeats 4000000 in
theorem c_X0_tellMember_6 (Z : gZ) (l : Launch) (AD : Nat → Nat) (M : St) (n : Nat) (hn : 78 ≤ n) (c ns nm i : Nat) (hc : c < 2) (hS : okS M c ns n) (hM : okM M c nm) (hZ : okZ M c nm) (hi : i < nm) : gM Z l yX0_tellMember cX0_tellMember 4 (some .int) ({ frames := 3, cells := 0, slots := 0, locals := 70 } : Room) [.ref (AD (1 + c)), .int (nI i), .int (nI 6)] (wC Z AD M n) (some (.int (temF M ns (8 * c + i) 6))) (wC Z AD M n) 0 0 := by
  refine gM_of (by decide +kernel) (Nat.le_of_ble_eq_true rfl) ?_
  intro pP eE sS mI aA bB mE cC A F hname hG ls hl
  have hx := F.1
  have hb := F.2.1
  have hl : lv_has ls 4 [(0, .ref (AD (1 + c))), (1, .int (nI i)), (2, .int (nI 6))] := hl
  have hnm2 := hM.2
  have hZ1 := (hZ i hi).2
  refine lv_aload_n hx hb dX0_tellMember_0 rfl (lv_at hl 0 rfl) ?_
  refine lv_iload_n hx hb dX0_tellMember_1 rfl (lv_at hl 1 rfl) ?_
  refine gg_callV F hG (ci := 0) (As := [.int (nI i)]) (rest := []) (c_X0_memberAt Z l AD M _ hn c hc _ i hM hi) kY_X0_memberAt kV_X0_memberAt (gC_club hc hn) rfl rfl w1_186 rfl ⟨rfl, rfl⟩ ⟨(Nat.le_of_ble_eq_true rfl), (Nat.le_of_ble_eq_true rfl)⟩ rfl (Nat.le_of_ble_eq_true rfl) hl.1 ⟨Nat.zero_le _, Nat.zero_le _⟩ dX0_tellMember_2 rfl (fun H locs hG => ?_)
  refine lv_astore_n (lv' := [(3, .ref (AD (26 + (8 * c + i)))), (0, .ref (AD (1 + c))), (1, .int (nI i)), (2, .int (nI 6))]) hx hb dX0_tellMember_5 rfl hl (by decide) rfl (fun ls hl => ?_)
  refine lv_aload_n hx hb dX0_tellMember_6 rfl (lv_at hl 0 rfl) ?_
  refine lv_ifnonnull (tgt := 12) hx hb dX0_tellMember_7 (by decide) ?_
  refine lv_iload_n hx hb dX0_tellMember_12 rfl (lv_at hl 3 rfl) ?_
  refine lv_tableIn (off := 104) (tgt := 117) hx hb dX0_tellMember_13 (by decide) (by decide) (by decide) (by decide) ?_
  refine lv_aload_n hx hb dX0_tellMember_117 rfl (lv_at hl 0 rfl) ?_
  refine gg_getN F hG (ci := 3) (v := .ref (AD (9 + (8 * c + i)))) 0 gcX3 rfl (gC_memb (by omega) hn) (by decide) wn_16 rfl dX0_tellMember_118 ?_
  refine gg_getN F hG (ci := 1) (v := .int (M 13 (8 * c + i) 0)) 5 gcX1 rfl (gC_cset (by omega) hn) (by decide) wn_11 rfl dX0_tellMember_121 ?_
  exact gg_iret F hG rfl rfl rfl dX0_tellMember_124
set_option maxRecDepth 100000 in
set_option maxHeartbeats 4000000 in
theorem c_X0_tellMember_7 (Z : gZ) (l : Launch) (AD : Nat → Nat) (M : St) (n : Nat) (hn : 78 ≤ n) (c ns nm i : Nat) (hc : c < 2) (hS : okS M c ns n) (hM : okM M c nm) (hZ : okZ M c nm) (hi : i < nm) : gM Z l yX0_tellMember cX0_tellMember 4 (some .int) ({ frames := 3, cells := 0, slots := 0, locals := 70 } : Room) [.ref (AD (1 + c)), .int (nI i), .int (nI 7)] (wC Z AD M n) (some (.int (temF M ns (8 * c + i) 7))) (wC Z AD M n) 0 0 := by
  refine gM_of (by decide +kernel) (Nat.le_of_ble_eq_true rfl) ?_
  intro pP eE sS mI aA bB mE cC A F hname hG ls hl
  have hx := F.1
  have hb := F.2.1
  have hl : lv_has ls 4 [(0, .ref (AD (1 + c))), (1, .int (nI i)), (2, .int (nI 7))] := hl
  have hnm2 := hM.2
  have hZ1 := (hZ i hi).2
  refine lv_aload_n hx hb dX0_tellMember_0 rfl (lv_at hl 0 rfl) ?_
  refine lv_iload_n hx hb dX0_tellMember_1 rfl (lv_at hl 1 rfl) ?_
  refine gg_callV F hG (ci := 0) (As := [.int (nI i)]) (rest := []) (c_X0_memberAt Z l AD M _ hn c hc _ i hM hi) kY_X0_memberAt kV_X0_memberAt (gC_club hc hn) rfl rfl w1_186 rfl ⟨rfl, rfl⟩ ⟨(Nat.le_of_ble_eq_true rfl), (Nat.le_of_ble_eq_true rfl)⟩ rfl (Nat.le_of_ble_eq_true rfl) hl.1 ⟨Nat.zero_le _, Nat.zero_le _⟩ dX0_tellMember_2 rfl (fun H locs hG => ?_)
  refine lv_astore_n (lv' := [(3, .ref (AD (26 + (8 * c + i)))), (0, .ref (AD (1 + c))), (1, .int (nI i)), (2, .int (nI 7))]) hx hb dX0_tellMember_5 rfl hl (by decide) rfl (fun ls hl => ?_)
  refine lv_aload_n hx hb dX0_tellMember_6 rfl (lv_at hl 0 rfl) ?_
  refine lv_ifnonnull (tgt := 12) hx hb dX0_tellMember_7 (by decide) ?_
  refine lv_iload_n hx hb dX0_tellMember_12 rfl (lv_at hl 3 rfl) ?_
  refine lv_tableIn (off := 112) (tgt := 125) hx hb dX0_tellMember_13 (by decide) (by decide) (by decide) (by decide) ?_
  refine lv_aload_n hx hb dX0_tellMember_125 rfl (lv_at hl 0 rfl) ?_
  refine gg_getN F hG (ci := 3) (v := .ref (AD (42 + (8 * c + i)))) 1 gcX3 rfl (gC_memb (by omega) hn) (by decide) wn_18 rfl dX0_tellMember_126 ?_
  refine gg_getN F hG (ci := 5) (v := .int (M 15 (8 * c + i) 0)) 2 gcX5 rfl (gC_tabl (by omega) hn) (by decide) wn_14 rfl dX0_tellMember_129 ?_
  exact gg_iret F hG rfl rfl rfl dX0_tellMember_132
set_option maxRecDepth 100000 in
set_option maxHeartbeats 4000000 in
theorem c_X0_tellMember_8 (Z : gZ) (l : Launch) (AD : Nat → Nat) (M : St) (n : Nat) (hn : 78 ≤ n) (c ns nm i : Nat) (hc : c < 2) (hS : okS M c ns n) (hM : okM M c nm) (hZ : okZ M c nm) (hi : i < nm) : gM Z l yX0_tellMember cX0_tellMember 4 (some .int) ({ frames := 3, cells := 0, slots := 0, locals := 70 } : Room) [.ref (AD (1 + c)), .int (nI i), .int (nI 8)] (wC Z AD M n) (some (.int (temF M ns (8 * c + i) 8))) (wC Z AD M n) 0 0 := by
  refine gM_of (by decide +kernel) (Nat.le_of_ble_eq_true rfl) ?_
  intro pP eE sS mI aA bB mE cC A F hname hG ls hl
  have hx := F.1
  have hb := F.2.1
  have hl : lv_has ls 4 [(0, .ref (AD (1 + c))), (1, .int (nI i)), (2, .int (nI 8))] := hl
  have hnm2 := hM.2
  have hZ1 := (hZ i hi).2
  refine lv_aload_n hx hb dX0_tellMember_0 rfl (lv_at hl 0 rfl) ?_
  refine lv_iload_n hx hb dX0_tellMember_1 rfl (lv_at hl 1 rfl) ?_
  refine gg_callV F hG (ci := 0) (As := [.int (nI i)]) (rest := []) (c_X0_memberAt Z l AD M _ hn c hc _ i hM hi) kY_X0_memberAt kV_X0_memberAt (gC_club hc hn) rfl rfl w1_186 rfl ⟨rfl, rfl⟩ ⟨(Nat.le_of_ble_eq_true rfl), (Nat.le_of_ble_eq_true rfl)⟩ rfl (Nat.le_of_ble_eq_true rfl) hl.1 ⟨Nat.zero_le _, Nat.zero_le _⟩ dX0_tellMember_2 rfl (fun H locs hG => ?_)
  refine lv_astore_n (lv' := [(3, .ref (AD (26 + (8 * c + i)))), (0, .ref (AD (1 + c))), (1, .int (nI i)), (2, .int (nI 8))]) hx hb dX0_tellMember_5 rfl hl (by decide) rfl (fun ls hl => ?_)
  refine lv_aload_n hx hb dX0_tellMember_6 rfl (lv_at hl 0 rfl) ?_
  refine lv_ifnonnull (tgt := 12) hx hb dX0_tellMember_7 (by decide) ?_
  refine lv_iload_n hx hb dX0_tellMember_12 rfl (lv_at hl 3 rfl) ?_
  refine lv_tableIn (off := 120) (tgt := 133) hx hb dX0_tellMember_13 (by decide) (by decide) (by decide) (by decide) ?_
  refine lv_aload_n hx hb dX0_tellMember_133 rfl (lv_at hl 0 rfl) ?_
  refine gg_callV F hG (ci := 3) (As := []) (rest := []) (c_X3_cards Z l AD M _ hn (8 * c + i) (szN M (8 * c + i)) (by omega) (hZ i hi).1 (by omega)) kY_X3_cards kV_X3_cards (gC_memb (by omega) hn) rfl rfl w2_13 rfl ⟨rfl, rfl⟩ ⟨(Nat.le_of_ble_eq_true rfl), (Nat.le_of_ble_eq_true rfl)⟩ rfl (Nat.le_of_ble_eq_true rfl) hl.1 ⟨Nat.zero_le _, Nat.zero_le _⟩ dX0_tellMember_134 rfl (fun H locs hG => ?_)
  refine gg_callS F hG (As := [.int (crdF M (8 * c + i) (szN M (8 * c + i)))]) (rest := []) (c_J6_bitCount_0f7a4 Z l (crdF M (8 * c + i) (szN M (8 * c + i))) _) kY_J6_bitCount_0f7a4 kV_J6_bitCount_0f7a4 w2_26 rfl ⟨rfl, rfl⟩ ⟨(Nat.le_of_ble_eq_true rfl), (Nat.le_of_ble_eq_true rfl)⟩ rfl (Nat.le_of_ble_eq_true rfl) hl.1 ⟨Nat.zero_le _, Nat.zero_le _⟩ dX0_tellMember_137 rfl (fun H locs hG => ?_)
  exact gg_iret F hG rfl rfl rfl dX0_tellMember_140
set_option maxRecDepth 100000 in
set_option maxHeartbeats 4000000 in
theorem c_X0_tellMember_9 (Z : gZ) (l : Launch) (AD : Nat → Nat) (M : St) (n : Nat) (hn : 78 ≤ n) (c ns nm i : Nat) (hc : c < 2) (hS : okS M c ns n) (hM : okM M c nm) (hZ : okZ M c nm) (hi : i < nm) : gM Z l yX0_tellMember cX0_tellMember 4 (some .int) ({ frames := 3, cells := 0, slots := 0, locals := 70 } : Room) [.ref (AD (1 + c)), .int (nI i), .int (nI 9)] (wC Z AD M n) (some (.int (temF M ns (8 * c + i) 9))) (wC Z AD M n) 0 0 := by
  refine gM_of (by decide +kernel) (Nat.le_of_ble_eq_true rfl) ?_
  intro pP eE sS mI aA bB mE cC A F hname hG ls hl
  have hx := F.1
  have hb := F.2.1
  have hl : lv_has ls 4 [(0, .ref (AD (1 + c))), (1, .int (nI i)), (2, .int (nI 9))] := hl
  have hnm2 := hM.2
  have hZ1 := (hZ i hi).2
  refine lv_aload_n hx hb dX0_tellMember_0 rfl (lv_at hl 0 rfl) ?_
  refine lv_iload_n hx hb dX0_tellMember_1 rfl (lv_at hl 1 rfl) ?_
  refine gg_callV F hG (ci := 0) (As := [.int (nI i)]) (rest := []) (c_X0_memberAt Z l AD M _ hn c hc _ i hM hi) kY_X0_memberAt kV_X0_memberAt (gC_club hc hn) rfl rfl w1_186 rfl ⟨rfl, rfl⟩ ⟨(Nat.le_of_ble_eq_true rfl), (Nat.le_of_ble_eq_true rfl)⟩ rfl (Nat.le_of_ble_eq_true rfl) hl.1 ⟨Nat.zero_le _, Nat.zero_le _⟩ dX0_tellMember_2 rfl (fun H locs hG => ?_)
  refine lv_astore_n (lv' := [(3, .ref (AD (26 + (8 * c + i)))), (0, .ref (AD (1 + c))), (1, .int (nI i)), (2, .int (nI 9))]) hx hb dX0_tellMember_5 rfl hl (by decide) rfl (fun ls hl => ?_)
  refine lv_aload_n hx hb dX0_tellMember_6 rfl (lv_at hl 0 rfl) ?_
  refine lv_ifnonnull (tgt := 12) hx hb dX0_tellMember_7 (by decide) ?_
  refine lv_iload_n hx hb dX0_tellMember_12 rfl (lv_at hl 3 rfl) ?_
  refine lv_tableOut (tgt := 141) hx hb dX0_tellMember_13 (by decide) (by decide) ?_
  refine lv_aload_n hx hb dX0_tellMember_141 rfl (lv_at hl 1 rfl) ?_
  refine lv_aload_n hx hb dX0_tellMember_142 rfl (lv_at hl 0 rfl) ?_
  refine gg_callV F hG (ci := 0) (As := [.ref (AD (26 + (8 * c + i)))]) (rest := []) (c_X0_scoreOf Z l AD M _ hn c (8 * c + i) _ hc (by omega) hS (hZ i hi).1 (hZ i hi).2) kY_X0_scoreOf kV_X0_scoreOf (gC_club hc hn) rfl rfl w2_32 rfl ⟨rfl, rfl⟩ ⟨(Nat.le_of_ble_eq_true rfl), (Nat.le_of_ble_eq_true rfl)⟩ rfl (Nat.le_of_ble_eq_true rfl) hl.1 ⟨Nat.zero_le _, Nat.zero_le _⟩ dX0_tellMember_143 rfl (fun H locs hG => ?_)
  exact gg_iret F hG rfl rfl rfl dX0_tellMember_146
theorem c_X0_tellMember (Z : gZ) (l : Launch) (AD : Nat → Nat) (M : St) (n : Nat) (hn : 78 ≤ n) (c ns nm i : Nat) (hc : c < 2) (hS : okS M c ns n) (hM : okM M c nm) (hZ : okZ M c nm) (hi : i < nm) (v : Nat) (hv : v < 10) : gM Z l yX0_tellMember cX0_tellMember 4 (some .int) ({ frames := 3, cells := 0, slots := 0, locals := 70 } : Room) [.ref (AD (1 + c)), .int (nI i), .int (nI v)] (wC Z AD M n) (some (.int (temF M ns (8 * c + i) v))) (wC Z AD M n) 0 0 := by
  match v, hv with
  | 0, _ => exact c_X0_tellMember_0 Z l AD M n hn c ns nm i hc hS hM hZ hi
  | 1, _ => exact c_X0_tellMember_1 Z l AD M n hn c ns nm i hc hS hM hZ hi
  | 2, _ => exact c_X0_tellMember_2 Z l AD M n hn c ns nm i hc hS hM hZ hi
  | 3, _ => exact c_X0_tellMember_3 Z l AD M n hn c ns nm i hc hS hM hZ hi
  | 4, _ => exact c_X0_tellMember_4 Z l AD M n hn c ns nm i hc hS hM hZ hi
  | 5, _ => exact c_X0_tellMember_5 Z l AD M n hn c ns nm i hc hS hM hZ hi
  | 6, _ => exact c_X0_tellMember_6 Z l AD M n hn c ns nm i hc hS hM hZ hi
  | 7, _ => exact c_X0_tellMember_7 Z l AD M n hn c ns nm i hc hS hM hZ hi
  | 8, _ => exact c_X0_tellMember_8 Z l AD M n hn c ns nm i hc hS hM hZ hi
  | 9, _ => exact c_X0_tellMember_9 Z l AD M n hn c ns nm i hc hS hM hZ hi
  | q + 10, h => exact absurd h (by omega)
set_option maxRecDepth 100000 in
set_option maxHeartbeats 4000000 in
theorem c_X0_tellCount_0 (Z : gZ) (l : Launch) (AD : Nat → Nat) (M : St) (n : Nat) (hn : 78 ≤ n) (c ns nm : Nat) (hc : c < 2) (hS : okS M c ns n) (hM : okM M c nm) (hZ : okZ M c nm) : gM Z l yX0_tellCount cX0_tellCount 2 (some .int) ({ frames := 4, cells := 0, slots := 0, locals := 90 } : Room) [.ref (AD (1 + c)), .int (nI 0)] (wC Z AD M n) (some (.int (tecF M c ns nm 0))) (wC Z AD M n) 0 0 := by
  refine gM_of (by decide +kernel) (Nat.le_of_ble_eq_true rfl) ?_
  intro pP eE sS mI aA bB mE cC A F hname hG ls hl
  have hx := F.1
  have hb := F.2.1
  have hl : lv_has ls 2 [(0, .ref (AD (1 + c))), (1, .int (nI 0))] := hl
  refine lv_iload_n hx hb dX0_tellCount_0 rfl (lv_at hl 1 rfl) ?_
  refine lv_tableIn (off := 43) (tgt := 44) hx hb dX0_tellCount_1 (by decide) (by decide) (by decide) (by decide) ?_
  refine lv_aload_n hx hb dX0_tellCount_44 rfl (lv_at hl 0 rfl) ?_
  refine gg_get F hG (ci := 0) (v := .int (M 3 c 0)) 6 gcX0 rfl (gC_club hc hn) (by decide) w1_149 rfl dX0_tellCount_45 ?_
  exact gg_iret F hG rfl rfl rfl dX0_tellCount_48
set_option maxRecDepth 100000 in
set_option maxHeartbeats 4000000 in
theorem c_X0_tellCount_1 (Z : gZ) (l : Launch) (AD : Nat → Nat) (M : St) (n : Nat) (hn : 78 ≤ n) (c ns nm : Nat) (hc : c < 2) (hS : okS M c ns n) (hM : okM M c nm) (hZ : okZ M c nm) : gM Z l yX0_tellCount cX0_tellCount 2 (some .int) ({ frames := 4, cells := 0, slots := 0, locals := 90 } : Room) [.ref (AD (1 + c)), .int (nI 1)] (wC Z AD M n) (some (.int (tecF M c ns nm 1))) (wC Z AD M n) 0 0 := by
  refine gM_of (by decide +kernel) (Nat.le_of_ble_eq_true rfl) ?_
  intro pP eE sS mI aA bB mE cC A F hname hG ls hl
  have hx := F.1
  have hb := F.2.1
  have hl : lv_has ls 2 [(0, .ref (AD (1 + c))), (1, .int (nI 1))] := hl
  refine lv_iload_n hx hb dX0_tellCount_0 rfl (lv_at hl 1 rfl) ?_
  refine lv_tableIn (off := 48) (tgt := 49) hx hb dX0_tellCount_1 (by decide) (by decide) (by decide) (by decide) ?_
  refine lv_aload_n hx hb dX0_tellCount_49 rfl (lv_at hl 0 rfl) ?_
  refine gg_get F hG (ci := 0) (v := .int (M 1 c 0)) 4 gcX0 rfl (gC_club hc hn) (by decide) w1_145 rfl dX0_tellCount_50 ?_
  exact gg_iret F hG rfl rfl rfl dX0_tellCount_53
set_option maxRecDepth 100000 in
set_option maxHeartbeats 4000000 in
theorem c_X0_tellCount_2 (Z : gZ) (l : Launch) (AD : Nat → Nat) (M : St) (n : Nat) (hn : 78 ≤ n) (c ns nm : Nat) (hc : c < 2) (hS : okS M c ns n) (hM : okM M c nm) (hZ : okZ M c nm) : gM Z l yX0_tellCount cX0_tellCount 2 (some .int) ({ frames := 4, cells := 0, slots := 0, locals := 90 } : Room) [.ref (AD (1 + c)), .int (nI 2)] (wC Z AD M n) (some (.int (tecF M c ns nm 2))) (wC Z AD M n) 0 0 := by
  refine gM_of (by decide +kernel) (Nat.le_of_ble_eq_true rfl) ?_
  intro pP eE sS mI aA bB mE cC A F hname hG ls hl
  have hx := F.1
  have hb := F.2.1
  have hl : lv_has ls 2 [(0, .ref (AD (1 + c))), (1, .int (nI 2))] := hl
  refine lv_iload_n hx hb dX0_tellCount_0 rfl (lv_at hl 1 rfl) ?_
  refine lv_tableIn (off := 53) (tgt := 54) hx hb dX0_tellCount_1 (by decide) (by decide) (by decide) (by decide) ?_
  refine lv_aload_n hx hb dX0_tellCount_54 rfl (lv_at hl 0 rfl) ?_
  refine gg_callV F hG (ci := 0) (As := []) (rest := []) (c_X0_stationsOnAir Z l AD M _ hn c _ hc hS) kY_X0_stationsOnAir kV_X0_stationsOnAir (gC_club hc hn) rfl rfl w1_220 rfl ⟨rfl, rfl⟩ ⟨(Nat.le_of_ble_eq_true rfl), (Nat.le_of_ble_eq_true rfl)⟩ rfl (Nat.le_of_ble_eq_true rfl) hl.1 ⟨Nat.zero_le _, Nat.zero_le _⟩ dX0_tellCount_55 rfl (fun H locs hG => ?_)
  exact gg_iret F hG rfl rfl rfl dX0_tellCount_58
set_option maxRecDepth 100000 in
set_option maxHeartbeats 4000000 in
theorem c_X0_tellCount_3 (Z : gZ) (l : Launch) (AD : Nat → Nat) (M : St) (n : Nat) (hn : 78 ≤ n) (c ns nm : Nat) (hc : c < 2) (hS : okS M c ns n) (hM : okM M c nm) (hZ : okZ M c nm) : gM Z l yX0_tellCount cX0_tellCount 2 (some .int) ({ frames := 4, cells := 0, slots := 0, locals := 90 } : Room) [.ref (AD (1 + c)), .int (nI 3)] (wC Z AD M n) (some (.int (tecF M c ns nm 3))) (wC Z AD M n) 0 0 := by
  refine gM_of (by decide +kernel) (Nat.le_of_ble_eq_true rfl) ?_
  intro pP eE sS mI aA bB mE cC A F hname hG ls hl
  have hx := F.1
  have hb := F.2.1
  have hl : lv_has ls 2 [(0, .ref (AD (1 + c))), (1, .int (nI 3))] := hl
  refine lv_iload_n hx hb dX0_tellCount_0 rfl (lv_at hl 1 rfl) ?_
  refine lv_tableIn (off := 58) (tgt := 59) hx hb dX0_tellCount_1 (by decide) (by decide) (by decide) (by decide) ?_
  refine lv_aload_n hx hb dX0_tellCount_59 rfl (lv_at hl 0 rfl) ?_
  refine gg_get F hG (ci := 0) (v := .int (M 2 c 0)) 5 gcX0 rfl (gC_club hc hn) (by decide) w1_147 rfl dX0_tellCount_60 ?_
  exact gg_iret F hG rfl rfl rfl dX0_tellCount_63
set_option maxRecDepth 100000 in
set_option maxHeartbeats 4000000 in
theorem c_X0_tellCount_4 (Z : gZ) (l : Launch) (AD : Nat → Nat) (M : St) (n : Nat) (hn : 78 ≤ n) (c ns nm : Nat) (hc : c < 2) (hS : okS M c ns n) (hM : okM M c nm) (hZ : okZ M c nm) : gM Z l yX0_tellCount cX0_tellCount 2 (some .int) ({ frames := 4, cells := 0, slots := 0, locals := 90 } : Room) [.ref (AD (1 + c)), .int (nI 4)] (wC Z AD M n) (some (.int (tecF M c ns nm 4))) (wC Z AD M n) 0 0 := by
  refine gM_of (by decide +kernel) (Nat.le_of_ble_eq_true rfl) ?_
  intro pP eE sS mI aA bB mE cC A F hname hG ls hl
  have hx := F.1
  have hb := F.2.1
  have hl : lv_has ls 2 [(0, .ref (AD (1 + c))), (1, .int (nI 4))] := hl
  refine lv_iload_n hx hb dX0_tellCount_0 rfl (lv_at hl 1 rfl) ?_
  refine lv_tableIn (off := 63) (tgt := 64) hx hb dX0_tellCount_1 (by decide) (by decide) (by decide) (by decide) ?_
  refine lv_aload_n hx hb dX0_tellCount_64 rfl (lv_at hl 0 rfl) ?_
  refine gg_callV F hG (ci := 0) (As := []) (rest := []) (c_X0_listeners Z l AD M _ hn c _ hc hM) kY_X0_listeners kV_X0_listeners (gC_club hc hn) rfl rfl w1_232 rfl ⟨rfl, rfl⟩ ⟨(Nat.le_of_ble_eq_true rfl), (Nat.le_of_ble_eq_true rfl)⟩ rfl (Nat.le_of_ble_eq_true rfl) hl.1 ⟨Nat.zero_le _, Nat.zero_le _⟩ dX0_tellCount_65 rfl (fun H locs hG => ?_)
  exact gg_iret F hG rfl rfl rfl dX0_tellCount_68
set_option maxRecDepth 100000 in
set_option maxHeartbeats 4000000 in
theorem c_X0_tellCount_5 (Z : gZ) (l : Launch) (AD : Nat → Nat) (M : St) (n : Nat) (hn : 78 ≤ n) (c ns nm : Nat) (hc : c < 2) (hS : okS M c ns n) (hM : okM M c nm) (hZ : okZ M c nm) : gM Z l yX0_tellCount cX0_tellCount 2 (some .int) ({ frames := 4, cells := 0, slots := 0, locals := 90 } : Room) [.ref (AD (1 + c)), .int (nI 5)] (wC Z AD M n) (some (.int (tecF M c ns nm 5))) (wC Z AD M n) 0 0 := by
  refine gM_of (by decide +kernel) (Nat.le_of_ble_eq_true rfl) ?_
  intro pP eE sS mI aA bB mE cC A F hname hG ls hl
  have hx := F.1
  have hb := F.2.1
  have hl : lv_has ls 2 [(0, .ref (AD (1 + c))), (1, .int (nI 5))] := hl
  refine lv_iload_n hx hb dX0_tellCount_0 rfl (lv_at hl 1 rfl) ?_
  refine lv_tableIn (off := 68) (tgt := 69) hx hb dX0_tellCount_1 (by decide) (by decide) (by decide) (by decide) ?_
  refine lv_aload_n hx hb dX0_tellCount_69 rfl (lv_at hl 0 rfl) ?_
  refine gg_callV F hG (ci := 0) (As := []) (rest := []) (c_X0_allLines Z l AD M _ hn c _ hc hM) kY_X0_allLines kV_X0_allLines (gC_club hc hn) rfl rfl w1_236 rfl ⟨rfl, rfl⟩ ⟨(Nat.le_of_ble_eq_true rfl), (Nat.le_of_ble_eq_true rfl)⟩ rfl (Nat.le_of_ble_eq_true rfl) hl.1 ⟨Nat.zero_le _, Nat.zero_le _⟩ dX0_tellCount_70 rfl (fun H locs hG => ?_)
  exact gg_iret F hG rfl rfl rfl dX0_tellCount_73
set_option maxRecDepth 100000 in
set_option maxHeartbeats 4000000 in
theorem c_X0_tellCount_6 (Z : gZ) (l : Launch) (AD : Nat → Nat) (M : St) (n : Nat) (hn : 78 ≤ n) (c ns nm : Nat) (hc : c < 2) (hS : okS M c ns n) (hM : okM M c nm) (hZ : okZ M c nm) : gM Z l yX0_tellCount cX0_tellCount 2 (some .int) ({ frames := 4, cells := 0, slots := 0, locals := 90 } : Room) [.ref (AD (1 + c)), .int (nI 6)] (wC Z AD M n) (some (.int (tecF M c ns nm 6))) (wC Z AD M n) 0 0 := by
  refine gM_of (by decide +kernel) (Nat.le_of_ble_eq_true rfl) ?_
  intro pP eE sS mI aA bB mE cC A F hname hG ls hl
  have hx := F.1
  have hb := F.2.1
  have hl : lv_has ls 2 [(0, .ref (AD (1 + c))), (1, .int (nI 6))] := hl
  refine lv_iload_n hx hb dX0_tellCount_0 rfl (lv_at hl 1 rfl) ?_
  refine lv_tableIn (off := 73) (tgt := 74) hx hb dX0_tellCount_1 (by decide) (by decide) (by decide) (by decide) ?_
  refine lv_aload_n hx hb dX0_tellCount_74 rfl (lv_at hl 0 rfl) ?_
  refine gg_callV F hG (ci := 0) (As := []) (rest := []) (c_X0_confirmedLines Z l AD M _ hn c _ hc hM hZ) kY_X0_confirmedLines kV_X0_confirmedLines (gC_club hc hn) rfl rfl w1_237 rfl ⟨rfl, rfl⟩ ⟨(Nat.le_of_ble_eq_true rfl), (Nat.le_of_ble_eq_true rfl)⟩ rfl (Nat.le_of_ble_eq_true rfl) hl.1 ⟨Nat.zero_le _, Nat.zero_le _⟩ dX0_tellCount_75 rfl (fun H locs hG => ?_)
  exact gg_iret F hG rfl rfl rfl dX0_tellCount_78
set_option maxRecDepth 100000 in
set_option maxHeartbeats 4000000 in
theorem c_X0_tellCount_7 (Z : gZ) (l : Launch) (AD : Nat → Nat) (M : St) (n : Nat) (hn : 78 ≤ n) (c ns nm : Nat) (hc : c < 2) (hS : okS M c ns n) (hM : okM M c nm) (hZ : okZ M c nm) : gM Z l yX0_tellCount cX0_tellCount 2 (some .int) ({ frames := 4, cells := 0, slots := 0, locals := 90 } : Room) [.ref (AD (1 + c)), .int (nI 7)] (wC Z AD M n) (some (.int (tecF M c ns nm 7))) (wC Z AD M n) 0 0 := by
  refine gM_of (by decide +kernel) (Nat.le_of_ble_eq_true rfl) ?_
  intro pP eE sS mI aA bB mE cC A F hname hG ls hl
  have hx := F.1
  have hb := F.2.1
  have hl : lv_has ls 2 [(0, .ref (AD (1 + c))), (1, .int (nI 7))] := hl
  refine lv_iload_n hx hb dX0_tellCount_0 rfl (lv_at hl 1 rfl) ?_
  refine lv_tableOut (tgt := 79) hx hb dX0_tellCount_1 (by decide) (by decide) ?_
  refine lv_aload_n hx hb dX0_tellCount_79 rfl (lv_at hl 0 rfl) ?_
  refine gg_get F hG (ci := 0) (v := .ref (AD (42 + (16 + c)))) 2 gcX0 rfl (gC_club hc hn) (by decide) w1_142 rfl dX0_tellCount_80 ?_
  refine gg_getN F hG (ci := 5) (v := .int (M 15 (16 + c) 0)) 2 gcX5 rfl (gC_tabl (by omega) hn) (by decide) wn_14 rfl dX0_tellCount_83 ?_
  exact gg_iret F hG rfl rfl rfl dX0_tellCount_86
theorem c_X0_tellCount (Z : gZ) (l : Launch) (AD : Nat → Nat) (M : St) (n : Nat) (hn : 78 ≤ n) (c ns nm : Nat) (hc : c < 2) (hS : okS M c ns n) (hM : okM M c nm) (hZ : okZ M c nm) (v : Nat) (hv : v < 8) : gM Z l yX0_tellCount cX0_tellCount 2 (some .int) ({ frames := 4, cells := 0, slots := 0, locals := 90 } : Room) [.ref (AD (1 + c)), .int (nI v)] (wC Z AD M n) (some (.int (tecF M c ns nm v))) (wC Z AD M n) 0 0 := by
  match v, hv with
  | 0, _ => exact c_X0_tellCount_0 Z l AD M n hn c ns nm hc hS hM hZ
  | 1, _ => exact c_X0_tellCount_1 Z l AD M n hn c ns nm hc hS hM hZ
  | 2, _ => exact c_X0_tellCount_2 Z l AD M n hn c ns nm hc hS hM hZ
  | 3, _ => exact c_X0_tellCount_3 Z l AD M n hn c ns nm hc hS hM hZ
  | 4, _ => exact c_X0_tellCount_4 Z l AD M n hn c ns nm hc hS hM hZ
  | 5, _ => exact c_X0_tellCount_5 Z l AD M n hn c ns nm hc hS hM hZ
  | 6, _ => exact c_X0_tellCount_6 Z l AD M n hn c ns nm hc hS hM hZ
  | 7, _ => exact c_X0_tellCount_7 Z l AD M n hn c ns nm hc hS hM hZ
  | q + 8, h => exact absurd h (by omega)
set_option maxRecDepth 100000 in
set_option maxHeartbeats 4000000 in
theorem c_X0_withRows (Z : gZ) (l : Launch) (AD : Nat → Nat) (M : St) (n : Nat) (hn : 78 ≤ n) (t : Nat) (ht : t < 16) (hs : M 15 t 0 = nI (szN M t)) (hs2 : szN M t ≤ 40) (d : Int64) : gM Z l yX0_withRows cX0_withRows 7 (some .long) ({ frames := 1, cells := 0, slots := 0, locals := 23 } : Room) [.long d, .ref (AD (42 + t))] (wC Z AD M n) (some (.long (dgT M t 4 d (szN M t)))) (wC Z AD M n) 0 0 := by
  refine gM_of (by decide +kernel) (Nat.le_of_ble_eq_true rfl) ?_
  intro pP eE sS mI aA bB mE cC A F hname hG ls hl
  have hx := F.1
  have hb := F.2.1
  have hl : lv_has ls 7 [(0, .long d), (2, .ref (AD (42 + t)))] := hl
  refine lv_lload_n hx hb dX0_withRows_0 rfl (lv_at hl 0 rfl) ?_
  refine lv_lstore_n (lv' := [(3, .long d), (0, .long d), (2, .ref (AD (42 + t)))]) hx hb dX0_withRows_1 rfl hl (by decide) rfl (fun ls hl => ?_)
  refine lv_iconst (v := nI 0) hx hb dX0_withRows_2 rfl ?_
  refine lv_istore (lv' := [(5, .int (nI 0)), (3, .long d), (0, .long d), (2, .ref (AD (42 + t)))]) hx hb dX0_withRows_3 hl (by decide) rfl (fun ls hl => ?_)
  have loop5 : ∀ (fuQ r : Nat), r ≤ (szN M t) → (szN M t) + 1 ≤ r + fuQ → ∀ (H : Heap) (locs : List Loc), gG Z A sS (wC Z AD M n) H locs → ∀ ls : Array Slot, lv_has ls 7 [(0, .long d), (2, .ref (AD (42 + t))), (3, .long (dgT M t 4 d r)), (5, .int (nI r))] → W pP l eE ({ frames := 1, cells := 0, slots := 0, locals := 23 } : Room) sS mI aA bB mE cC H locs 0 0 (MQ bB (gQ Z A (some (.long (dgT M t 4 d (szN M t)))) (wC Z AD M n)) aA sS 0 0 A) (F0 mI 5 ls []) := by
    intro fuQ
    induction fuQ with
    | zero =>
      intro r h1 h2
      exact absurd h2 (by omega)
    | succ fuQ ih5 =>
      intro r hleQ hfuQ H locs hG ls hl
      by_cases hlt : r < (szN M t)
      · refine lv_iload hx hb dX0_withRows_5 (lv_at hl 3 rfl) ?_
        refine lv_aload_n hx hb dX0_withRows_7 rfl (lv_at hl 1 rfl) ?_
        refine gg_getN F hG (ci := 5) (v := .int (nI (szN M t))) 2 gcX5 rfl (gC_tabl (show t < 18 by omega) hn) (by decide) wn_14 (congrArg (fun z => some (Value.int z)) hs) dX0_withRows_8 ?_
        refine lv_icmp_ge (tgt := 54) hx hb dX0_withRows_11 (by decide) (fun h11 => absurd h11 (nI_ge hlt (by omega))) (fun h11 => ?_)
        refine lv_iconst (v := nI 0) hx hb dX0_withRows_14 rfl ?_
        refine lv_istore (lv' := [(6, .int (nI 0)), (0, .long d), (2, .ref (AD (42 + t))), (3, .long (dgT M t 4 d r)), (5, .int (nI r))]) hx hb dX0_withRows_15 hl (by decide) rfl (fun ls hl => ?_)
        have loop17 : ∀ (fuQ k : Nat), k ≤ 4 → 4 + 1 ≤ k + fuQ → ∀ (H : Heap) (locs : List Loc), gG Z A sS (wC Z AD M n) H locs → ∀ ls : Array Slot, lv_has ls 7 [(0, .long d), (2, .ref (AD (42 + t))), (3, .long (dgN (fun k => M 16 t (r * 4 + k)) (dgT M t 4 d r) k)), (5, .int (nI r)), (6, .int (nI k))] → W pP l eE ({ frames := 1, cells := 0, slots := 0, locals := 23 } : Room) sS mI aA bB mE cC H locs 0 0 (MQ bB (gQ Z A (some (.long (dgT M t 4 d (szN M t)))) (wC Z AD M n)) aA sS 0 0 A) (F0 mI 17 ls []) := by
          intro fuQ
          induction fuQ with
          | zero =>
            intro k h1 h2
            exact absurd h2 (by omega)
          | succ fuQ ih17 =>
            intro k hleQ hfuQ H locs hG ls hl
            by_cases hlt2 : k < 4
            · refine lv_iload hx hb dX0_withRows_17 (lv_at hl 4 rfl) ?_
              refine lv_aload_n hx hb dX0_withRows_19 rfl (lv_at hl 1 rfl) ?_
              refine gg_getN F hG (ci := 5) (v := .int (nI 4)) 0 gcX5 rfl (gC_tabl (show t < 18 by omega) hn) (by decide) wn_12 (congrArg (fun z => some (Value.int z)) (if_pos ht)) dX0_withRows_20 ?_
              refine lv_icmp_ge (tgt := 48) hx hb dX0_withRows_23 (by decide) (fun h23 => absurd h23 (show ¬ (4 : Int32) ≤ nI k from nI_ge (b := 4) hlt2 (by decide))) (fun h23 => ?_)
              refine lv_lload_n hx hb dX0_withRows_26 rfl (lv_at hl 2 rfl) ?_
              refine lv_ldc2 hx hb F.2.2.2.1 (F.2.2.2.2.1 _ w1_215) dX0_withRows_27 ?_
              refine lv_lmul hx hb dX0_withRows_30 ?_
              refine lv_aload_n hx hb dX0_withRows_31 rfl (lv_at hl 1 rfl) ?_
              refine lv_iload hx hb dX0_withRows_32 (lv_at hl 3 rfl) ?_
              refine lv_iload hx hb dX0_withRows_34 (lv_at hl 4 rfl) ?_
              refine gg_callV F hG (ci := 5) (As := [.int (nI r), .int (nI k)]) (rest := [.long ((dgN (fun k => M 16 t (r * 4 + k)) (dgT M t 4 d r) k) * 31)]) (c_X5_at Z l AD M _ hn t r k 4 160 (show t < 18 by omega) (if_pos (by omega)) (if_pos (by omega)) (by omega) (by omega)) kY_X5_at kV_X5_at (gC_tabl (show t < 18 by omega) hn) rfl rfl w2_39 rfl ⟨rfl, rfl⟩ ⟨(Nat.le_of_ble_eq_true rfl), (Nat.le_of_ble_eq_true rfl)⟩ rfl (Nat.le_of_ble_eq_true rfl) hl.1 ⟨Nat.zero_le _, Nat.zero_le _⟩ dX0_withRows_36 rfl (fun H locs hG => ?_)
              refine lv_i2l hx hb dX0_withRows_39 rfl ?_
              refine lv_ladd hx hb dX0_withRows_40 ?_
              refine lv_lstore_n (lv' := [(3, .long (((dgN (fun k => M 16 t (r * 4 + k)) (dgT M t 4 d r) k) * 31) + ((M 16 t (r * 4 + k)).toInt64))), (0, .long d), (2, .ref (AD (42 + t))), (5, .int (nI r)), (6, .int (nI k))]) hx hb dX0_withRows_41 rfl hl (by decide) rfl (fun ls hl => ?_)
              refine lv_iinc (v := nI (k + 1)) (lv' := [(6, .int (nI (k + 1))), (3, .long (((dgN (fun k => M 16 t (r * 4 + k)) (dgT M t 4 d r) k) * 31) + ((M 16 t (r * 4 + k)).toInt64))), (0, .long d), (2, .ref (AD (42 + t))), (5, .int (nI r))]) hx hb dX0_withRows_42 hl (k := 4) rfl (nI_1 _) (by decide) rfl (fun ls hl => ?_)
              refine lv_goto (tgt := 17) hx hb dX0_withRows_45 (by decide) ?_
              exact ih17 (k + 1) (by omega) (by omega) _ _ hG ls (lv_sub hl [2, 3, 1, 4, 0] rfl)
            · have hN : 4 = k := by omega
              subst hN
              refine lv_iload hx hb dX0_withRows_17 (lv_at hl 4 rfl) ?_
              refine lv_aload_n hx hb dX0_withRows_19 rfl (lv_at hl 1 rfl) ?_
              refine gg_getN F hG (ci := 5) (v := .int (nI 4)) 0 gcX5 rfl (gC_tabl (show t < 18 by omega) hn) (by decide) wn_12 (congrArg (fun z => some (Value.int z)) (if_pos ht)) dX0_withRows_20 ?_
              refine lv_icmp_ge (tgt := 48) hx hb dX0_withRows_23 (by decide) (fun h23 => ?_) (fun h23 => absurd (show (4 : Int32) ≤ nI 4 by decide) h23)
              refine lv_iinc (v := nI (r + 1)) (lv' := [(5, .int (nI (r + 1))), (0, .long d), (2, .ref (AD (42 + t))), (3, .long (dgN (fun k => M 16 t (r * 4 + k)) (dgT M t 4 d r) 4)), (6, .int (nI 4))]) hx hb dX0_withRows_48 hl (k := 3) rfl (nI_1 _) (by decide) rfl (fun ls hl => ?_)
              refine lv_goto (tgt := 5) hx hb dX0_withRows_51 (by decide) ?_
              exact ih5 (r + 1) (by omega) (by omega) _ _ hG ls (lv_sub hl [1, 2, 3, 0] rfl)
        exact loop17 (4 + 1) 0 (Nat.zero_le _) (by omega) _ _ hG ls (lv_sub hl [1, 2, 3, 4, 0] rfl)
      · have hN : (szN M t) = r := by omega
        subst hN
        refine lv_iload hx hb dX0_withRows_5 (lv_at hl 3 rfl) ?_
        refine lv_aload_n hx hb dX0_withRows_7 rfl (lv_at hl 1 rfl) ?_
        refine gg_getN F hG (ci := 5) (v := .int (nI (szN M t))) 2 gcX5 rfl (gC_tabl (show t < 18 by omega) hn) (by decide) wn_14 (congrArg (fun z => some (Value.int z)) hs) dX0_withRows_8 ?_
        refine lv_icmp_ge (tgt := 54) hx hb dX0_withRows_11 (by decide) (fun h11 => ?_) (fun h11 => absurd (nI_le (Nat.le_refl _) (by omega)) h11)
        refine lv_lload_n hx hb dX0_withRows_54 rfl (lv_at hl 2 rfl) ?_
        exact gg_lret F hG rfl rfl dX0_withRows_55
  exact loop5 ((szN M t) + 1) 0 (Nat.zero_le _) (by omega) _ _ hG ls (lv_sub hl [2, 3, 1, 0] rfl)
set_option maxRecDepth 100000 in
set_option maxHeartbeats 4000000 in
theorem c_X0_withRows_L (Z : gZ) (l : Launch) (AD : Nat → Nat) (M : St) (n : Nat) (hn : 78 ≤ n) (c : Nat) (hc : c < 2) (hs : M 15 (16 + c) 0 = nI (szN M (16 + c))) (hs2 : szN M (16 + c) ≤ 30) (d : Int64) : gM Z l yX0_withRows cX0_withRows 7 (some .long) ({ frames := 1, cells := 0, slots := 0, locals := 23 } : Room) [.long d, .ref (AD (42 + (16 + c)))] (wC Z AD M n) (some (.long (dgT M (16 + c) 3 d (szN M (16 + c))))) (wC Z AD M n) 0 0 := by
  refine gM_of (by decide +kernel) (Nat.le_of_ble_eq_true rfl) ?_
  intro pP eE sS mI aA bB mE cC A F hname hG ls hl
  have hx := F.1
  have hb := F.2.1
  have hl : lv_has ls 7 [(0, .long d), (2, .ref (AD (42 + (16 + c))))] := hl
  refine lv_lload_n hx hb dX0_withRows_0 rfl (lv_at hl 0 rfl) ?_
  refine lv_lstore_n (lv' := [(3, .long d), (0, .long d), (2, .ref (AD (42 + (16 + c))))]) hx hb dX0_withRows_1 rfl hl (by decide) rfl (fun ls hl => ?_)
  refine lv_iconst (v := nI 0) hx hb dX0_withRows_2 rfl ?_
  refine lv_istore (lv' := [(5, .int (nI 0)), (3, .long d), (0, .long d), (2, .ref (AD (42 + (16 + c))))]) hx hb dX0_withRows_3 hl (by decide) rfl (fun ls hl => ?_)
  have loop5 : ∀ (fuQ r : Nat), r ≤ (szN M (16 + c)) → (szN M (16 + c)) + 1 ≤ r + fuQ → ∀ (H : Heap) (locs : List Loc), gG Z A sS (wC Z AD M n) H locs → ∀ ls : Array Slot, lv_has ls 7 [(0, .long d), (2, .ref (AD (42 + (16 + c)))), (3, .long (dgT M (16 + c) 3 d r)), (5, .int (nI r))] → W pP l eE ({ frames := 1, cells := 0, slots := 0, locals := 23 } : Room) sS mI aA bB mE cC H locs 0 0 (MQ bB (gQ Z A (some (.long (dgT M (16 + c) 3 d (szN M (16 + c))))) (wC Z AD M n)) aA sS 0 0 A) (F0 mI 5 ls []) := by
    intro fuQ
    induction fuQ with
    | zero =>
      intro r h1 h2
      exact absurd h2 (by omega)
    | succ fuQ ih5 =>
      intro r hleQ hfuQ H locs hG ls hl
      by_cases hlt : r < (szN M (16 + c))
      · refine lv_iload hx hb dX0_withRows_5 (lv_at hl 3 rfl) ?_
        refine lv_aload_n hx hb dX0_withRows_7 rfl (lv_at hl 1 rfl) ?_
        refine gg_getN F hG (ci := 5) (v := .int (nI (szN M (16 + c)))) 2 gcX5 rfl (gC_tabl (show 16 + c < 18 by omega) hn) (by decide) wn_14 (congrArg (fun z => some (Value.int z)) hs) dX0_withRows_8 ?_
        refine lv_icmp_ge (tgt := 54) hx hb dX0_withRows_11 (by decide) (fun h11 => absurd h11 (nI_ge hlt (by omega))) (fun h11 => ?_)
        refine lv_iconst (v := nI 0) hx hb dX0_withRows_14 rfl ?_
        refine lv_istore (lv' := [(6, .int (nI 0)), (0, .long d), (2, .ref (AD (42 + (16 + c)))), (3, .long (dgT M (16 + c) 3 d r)), (5, .int (nI r))]) hx hb dX0_withRows_15 hl (by decide) rfl (fun ls hl => ?_)
        have loop17 : ∀ (fuQ k : Nat), k ≤ 3 → 3 + 1 ≤ k + fuQ → ∀ (H : Heap) (locs : List Loc), gG Z A sS (wC Z AD M n) H locs → ∀ ls : Array Slot, lv_has ls 7 [(0, .long d), (2, .ref (AD (42 + (16 + c)))), (3, .long (dgN (fun k => M 16 (16 + c) (r * 3 + k)) (dgT M (16 + c) 3 d r) k)), (5, .int (nI r)), (6, .int (nI k))] → W pP l eE ({ frames := 1, cells := 0, slots := 0, locals := 23 } : Room) sS mI aA bB mE cC H locs 0 0 (MQ bB (gQ Z A (some (.long (dgT M (16 + c) 3 d (szN M (16 + c))))) (wC Z AD M n)) aA sS 0 0 A) (F0 mI 17 ls []) := by
          intro fuQ
          induction fuQ with
          | zero =>
            intro k h1 h2
            exact absurd h2 (by omega)
          | succ fuQ ih17 =>
            intro k hleQ hfuQ H locs hG ls hl
            by_cases hlt2 : k < 3
            · refine lv_iload hx hb dX0_withRows_17 (lv_at hl 4 rfl) ?_
              refine lv_aload_n hx hb dX0_withRows_19 rfl (lv_at hl 1 rfl) ?_
              refine gg_getN F hG (ci := 5) (v := .int (nI 3)) 0 gcX5 rfl (gC_tabl (show 16 + c < 18 by omega) hn) (by decide) wn_12 (congrArg (fun z => some (Value.int z)) (if_neg (by omega))) dX0_withRows_20 ?_
              refine lv_icmp_ge (tgt := 48) hx hb dX0_withRows_23 (by decide) (fun h23 => absurd h23 (show ¬ (3 : Int32) ≤ nI k from nI_ge (b := 3) hlt2 (by decide))) (fun h23 => ?_)
              refine lv_lload_n hx hb dX0_withRows_26 rfl (lv_at hl 2 rfl) ?_
              refine lv_ldc2 hx hb F.2.2.2.1 (F.2.2.2.2.1 _ w1_215) dX0_withRows_27 ?_
              refine lv_lmul hx hb dX0_withRows_30 ?_
              refine lv_aload_n hx hb dX0_withRows_31 rfl (lv_at hl 1 rfl) ?_
              refine lv_iload hx hb dX0_withRows_32 (lv_at hl 3 rfl) ?_
              refine lv_iload hx hb dX0_withRows_34 (lv_at hl 4 rfl) ?_
              refine gg_callV F hG (ci := 5) (As := [.int (nI r), .int (nI k)]) (rest := [.long ((dgN (fun k => M 16 (16 + c) (r * 3 + k)) (dgT M (16 + c) 3 d r) k) * 31)]) (c_X5_at Z l AD M _ hn (16 + c) r k 3 90 (show 16 + c < 18 by omega) (if_neg (by omega)) (if_neg (by omega)) (by omega) (by omega)) kY_X5_at kV_X5_at (gC_tabl (show 16 + c < 18 by omega) hn) rfl rfl w2_39 rfl ⟨rfl, rfl⟩ ⟨(Nat.le_of_ble_eq_true rfl), (Nat.le_of_ble_eq_true rfl)⟩ rfl (Nat.le_of_ble_eq_true rfl) hl.1 ⟨Nat.zero_le _, Nat.zero_le _⟩ dX0_withRows_36 rfl (fun H locs hG => ?_)
              refine lv_i2l hx hb dX0_withRows_39 rfl ?_
              refine lv_ladd hx hb dX0_withRows_40 ?_
              refine lv_lstore_n (lv' := [(3, .long (((dgN (fun k => M 16 (16 + c) (r * 3 + k)) (dgT M (16 + c) 3 d r) k) * 31) + ((M 16 (16 + c) (r * 3 + k)).toInt64))), (0, .long d), (2, .ref (AD (42 + (16 + c)))), (5, .int (nI r)), (6, .int (nI k))]) hx hb dX0_withRows_41 rfl hl (by decide) rfl (fun ls hl => ?_)
              refine lv_iinc (v := nI (k + 1)) (lv' := [(6, .int (nI (k + 1))), (3, .long (((dgN (fun k => M 16 (16 + c) (r * 3 + k)) (dgT M (16 + c) 3 d r) k) * 31) + ((M 16 (16 + c) (r * 3 + k)).toInt64))), (0, .long d), (2, .ref (AD (42 + (16 + c)))), (5, .int (nI r))]) hx hb dX0_withRows_42 hl (k := 4) rfl (nI_1 _) (by decide) rfl (fun ls hl => ?_)
              refine lv_goto (tgt := 17) hx hb dX0_withRows_45 (by decide) ?_
              exact ih17 (k + 1) (by omega) (by omega) _ _ hG ls (lv_sub hl [2, 3, 1, 4, 0] rfl)
            · have hN : 3 = k := by omega
              subst hN
              refine lv_iload hx hb dX0_withRows_17 (lv_at hl 4 rfl) ?_
              refine lv_aload_n hx hb dX0_withRows_19 rfl (lv_at hl 1 rfl) ?_
              refine gg_getN F hG (ci := 5) (v := .int (nI 3)) 0 gcX5 rfl (gC_tabl (show 16 + c < 18 by omega) hn) (by decide) wn_12 (congrArg (fun z => some (Value.int z)) (if_neg (by omega))) dX0_withRows_20 ?_
              refine lv_icmp_ge (tgt := 48) hx hb dX0_withRows_23 (by decide) (fun h23 => ?_) (fun h23 => absurd (show (3 : Int32) ≤ nI 3 by decide) h23)
              refine lv_iinc (v := nI (r + 1)) (lv' := [(5, .int (nI (r + 1))), (0, .long d), (2, .ref (AD (42 + (16 + c)))), (3, .long (dgN (fun k => M 16 (16 + c) (r * 3 + k)) (dgT M (16 + c) 3 d r) 3)), (6, .int (nI 3))]) hx hb dX0_withRows_48 hl (k := 3) rfl (nI_1 _) (by decide) rfl (fun ls hl => ?_)
              refine lv_goto (tgt := 5) hx hb dX0_withRows_51 (by decide) ?_
              exact ih5 (r + 1) (by omega) (by omega) _ _ hG ls (lv_sub hl [1, 2, 3, 0] rfl)
        exact loop17 (3 + 1) 0 (Nat.zero_le _) (by omega) _ _ hG ls (lv_sub hl [1, 2, 3, 4, 0] rfl)
      · have hN : (szN M (16 + c)) = r := by omega
        subst hN
        refine lv_iload hx hb dX0_withRows_5 (lv_at hl 3 rfl) ?_
        refine lv_aload_n hx hb dX0_withRows_7 rfl (lv_at hl 1 rfl) ?_
        refine gg_getN F hG (ci := 5) (v := .int (nI (szN M (16 + c)))) 2 gcX5 rfl (gC_tabl (show 16 + c < 18 by omega) hn) (by decide) wn_14 (congrArg (fun z => some (Value.int z)) hs) dX0_withRows_8 ?_
        refine lv_icmp_ge (tgt := 54) hx hb dX0_withRows_11 (by decide) (fun h11 => ?_) (fun h11 => absurd (nI_le (Nat.le_refl _) (by omega)) h11)
        refine lv_lload_n hx hb dX0_withRows_54 rfl (lv_at hl 2 rfl) ?_
        exact gg_lret F hG rfl rfl dX0_withRows_55
  exact loop5 ((szN M (16 + c)) + 1) 0 (Nat.zero_le _) (by omega) _ _ hG ls (lv_sub hl [2, 3, 1, 0] rfl)
set_option maxRecDepth 100000 in
set_option maxHeartbeats 4000000 in
theorem c_X0_withMember (Z : gZ) (l : Launch) (AD : Nat → Nat) (M : St) (n : Nat) (hn : 78 ≤ n) (c ns nm i : Nat) (hc : c < 2) (hS : okS M c ns n) (hM : okM M c nm) (hZ : okZ M c nm) (hi : i < nm) (d : Int64) : gM Z l yX0_withMember cX0_withMember 7 (some .long) ({ frames := 4, cells := 0, slots := 0, locals := 93 } : Room) [.ref (AD (1 + c)), .long d, .int (nI i)] (wC Z AD M n) (some (.long (dgM M ns (8 * c + i) d))) (wC Z AD M n) 0 0 := by
  refine gM_of (by decide +kernel) (Nat.le_of_ble_eq_true rfl) ?_
  intro pP eE sS mI aA bB mE cC A F hname hG ls hl
  have hx := F.1
  have hb := F.2.1
  have hl : lv_has ls 7 [(0, .ref (AD (1 + c))), (1, .long d), (3, .int (nI i))] := hl
  have hnm2 := hM.2
  refine lv_lload_n hx hb dX0_withMember_0 rfl (lv_at hl 1 rfl) ?_
  refine lv_lstore (lv' := [(4, .long d), (0, .ref (AD (1 + c))), (1, .long d), (3, .int (nI i))]) hx hb dX0_withMember_1 hl (by decide) rfl (fun ls hl => ?_)
  refine lv_iconst (v := nI 0) hx hb dX0_withMember_3 rfl ?_
  refine lv_istore (lv' := [(6, .int (nI 0)), (4, .long d), (0, .ref (AD (1 + c))), (1, .long d), (3, .int (nI i))]) hx hb dX0_withMember_4 hl (by decide) rfl (fun ls hl => ?_)
  have loop6 : ∀ (fuQ v : Nat), v ≤ 10 → 10 + 1 ≤ v + fuQ → ∀ (H : Heap) (locs : List Loc), gG Z A sS (wC Z AD M n) H locs → ∀ ls : Array Slot, lv_has ls 7 [(0, .ref (AD (1 + c))), (1, .long d), (3, .int (nI i)), (4, .long (dgN (temF M ns (8 * c + i)) d v)), (6, .int (nI v))] → W pP l eE ({ frames := 4, cells := 0, slots := 0, locals := 93 } : Room) sS mI aA bB mE cC H locs 0 0 (MQ bB (gQ Z A (some (.long (dgM M ns (8 * c + i) d))) (wC Z AD M n)) aA sS 0 0 A) (F0 mI 6 ls []) := by
    intro fuQ
    induction fuQ with
    | zero =>
      intro v h1 h2
      exact absurd h2 (by omega)
    | succ fuQ ih6 =>
      intro v hleQ hfuQ H locs hG ls hl
      by_cases hlt : v < 10
      · refine lv_iload hx hb dX0_withMember_6 (lv_at hl 4 rfl) ?_
        refine lv_bipush (v := 10) hx hb dX0_withMember_8 (by decide) ?_
        refine lv_icmp_ge (tgt := 36) hx hb dX0_withMember_10 (by decide) (fun h10 => absurd h10 (show ¬ (10 : Int32) ≤ nI v from nI_ge (b := 10) hlt (by decide))) (fun h10 => ?_)
        refine lv_lload hx hb dX0_withMember_13 (lv_at hl 3 rfl) ?_
        refine lv_ldc2 hx hb F.2.2.2.1 (F.2.2.2.2.1 _ w1_215) dX0_withMember_15 ?_
        refine lv_lmul hx hb dX0_withMember_18 ?_
        refine lv_aload_n hx hb dX0_withMember_19 rfl (lv_at hl 0 rfl) ?_
        refine lv_iload_n hx hb dX0_withMember_20 rfl (lv_at hl 2 rfl) ?_
        refine lv_iload hx hb dX0_withMember_21 (lv_at hl 4 rfl) ?_
        refine gg_callV F hG (ci := 0) (As := [.int (nI i), .int (nI v)]) (rest := [.long ((dgN (temF M ns (8 * c + i)) d v) * 31)]) (c_X0_tellMember Z l AD M _ hn c _ _ i hc hS hM hZ hi v hlt) kY_X0_tellMember kV_X0_tellMember (gC_club hc hn) rfl rfl w2_22 rfl ⟨rfl, rfl⟩ ⟨(Nat.le_of_ble_eq_true rfl), (Nat.le_of_ble_eq_true rfl)⟩ rfl (Nat.le_of_ble_eq_true rfl) hl.1 ⟨Nat.zero_le _, Nat.zero_le _⟩ dX0_withMember_23 rfl (fun H locs hG => ?_)
        refine lv_i2l hx hb dX0_withMember_26 rfl ?_
        refine lv_ladd hx hb dX0_withMember_27 ?_
        refine lv_lstore (lv' := [(4, .long (((dgN (temF M ns (8 * c + i)) d v) * 31) + ((temF M ns (8 * c + i) v).toInt64))), (0, .ref (AD (1 + c))), (1, .long d), (3, .int (nI i)), (6, .int (nI v))]) hx hb dX0_withMember_28 hl (by decide) rfl (fun ls hl => ?_)
        refine lv_iinc (v := nI (v + 1)) (lv' := [(6, .int (nI (v + 1))), (4, .long (((dgN (temF M ns (8 * c + i)) d v) * 31) + ((temF M ns (8 * c + i) v).toInt64))), (0, .ref (AD (1 + c))), (1, .long d), (3, .int (nI i))]) hx hb dX0_withMember_30 hl (k := 4) rfl (nI_1 _) (by decide) rfl (fun ls hl => ?_)
        refine lv_goto (tgt := 6) hx hb dX0_withMember_33 (by decide) ?_
        exact ih6 (v + 1) (by omega) (by omega) _ _ hG ls (lv_sub hl [2, 3, 4, 1, 0] rfl)
      · have hN : 10 = v := by omega
        subst hN
        refine lv_iload hx hb dX0_withMember_6 (lv_at hl 4 rfl) ?_
        refine lv_bipush (v := 10) hx hb dX0_withMember_8 (by decide) ?_
        refine lv_icmp_ge (tgt := 36) hx hb dX0_withMember_10 (by decide) (fun h10 => ?_) (fun h10 => absurd (show (10 : Int32) ≤ nI 10 by decide) h10)
        refine lv_aload_n hx hb dX0_withMember_36 rfl (lv_at hl 0 rfl) ?_
        refine lv_iload_n hx hb dX0_withMember_37 rfl (lv_at hl 2 rfl) ?_
        refine gg_callV F hG (ci := 0) (As := [.int (nI i)]) (rest := []) (c_X0_memberAt Z l AD M _ hn c hc _ i hM hi) kY_X0_memberAt kV_X0_memberAt (gC_club hc hn) rfl rfl w1_186 rfl ⟨rfl, rfl⟩ ⟨(Nat.le_of_ble_eq_true rfl), (Nat.le_of_ble_eq_true rfl)⟩ rfl (Nat.le_of_ble_eq_true rfl) hl.1 ⟨Nat.zero_le _, Nat.zero_le _⟩ dX0_withMember_38 rfl (fun H locs hG => ?_)
        refine lv_astore (lv' := [(6, .ref (AD (26 + (8 * c + i)))), (0, .ref (AD (1 + c))), (1, .long d), (3, .int (nI i)), (4, .long (dgN (temF M ns (8 * c + i)) d 10))]) hx hb dX0_withMember_41 hl (by decide) rfl (fun ls hl => ?_)
        refine lv_aload hx hb dX0_withMember_43 (lv_at hl 0 rfl) ?_
        refine lv_ifnonnull (tgt := 53) hx hb dX0_withMember_45 (by decide) ?_
        refine lv_lload hx hb dX0_withMember_53 (lv_at hl 4 rfl) ?_
        refine lv_aload hx hb dX0_withMember_55 (lv_at hl 0 rfl) ?_
        refine gg_getN F hG (ci := 3) (v := .ref (AD (42 + (8 * c + i)))) 1 gcX3 rfl (gC_memb (by omega) hn) (by decide) wn_18 rfl dX0_withMember_57 ?_
        refine gg_callS F hG (As := [.long (dgN (temF M ns (8 * c + i)) d 10), .ref (AD (42 + (8 * c + i)))]) (rest := []) (c_X0_withRows Z l AD M _ hn (8 * c + i) (by omega) (hZ i hi).1 (hZ i hi).2 (dgN (temF M ns (8 * c + i)) d 10)) kY_X0_withRows kV_X0_withRows w2_36 rfl ⟨rfl, rfl⟩ ⟨(Nat.le_of_ble_eq_true rfl), (Nat.le_of_ble_eq_true rfl)⟩ rfl (Nat.le_of_ble_eq_true rfl) hl.1 ⟨Nat.zero_le _, Nat.zero_le _⟩ dX0_withMember_60 rfl (fun H locs hG => ?_)
        exact gg_lret F hG rfl rfl dX0_withMember_63
  exact loop6 (10 + 1) 0 (Nat.zero_le _) (by omega) _ _ hG ls (lv_sub hl [2, 3, 4, 1, 0] rfl)
set_option maxRecDepth 100000 in
set_option maxHeartbeats 4000000 in
theorem c_X0_checksum (Z : gZ) (l : Launch) (AD : Nat → Nat) (M : St) (n : Nat) (hn : 78 ≤ n) (c ns nm : Nat) (hc : c < 2) (hS : okS M c ns n) (hM : okM M c nm) (hZ : okZ M c nm) (hT : okT M c nm) : gM Z l yX0_checksum cX0_checksum 5 (some .long) ({ frames := 5, cells := 0, slots := 0, locals := 119 } : Room) [.ref (AD (1 + c))] (wC Z AD M n) (some (.long (digF M c ns nm))) (wC Z AD M n) 0 0 := by
  refine gM_of (by decide +kernel) (Nat.le_of_ble_eq_true rfl) ?_
  intro pP eE sS mI aA bB mE cC A F hname hG ls hl
  have hx := F.1
  have hb := F.2.1
  have hl : lv_has ls 5 [(0, .ref (AD (1 + c)))] := hl
  have hns2 := hS.2.1
  have hns3 := hS.2.2.1
  have hnm2 := hM.2
  refine lv_ldc2 hx hb F.2.2.2.1 (F.2.2.2.2.1 _ w1_214) dX0_checksum_0 ?_
  refine lv_lstore_n (lv' := [(1, .long 701), (0, .ref (AD (1 + c)))]) hx hb dX0_checksum_3 rfl hl (by decide) rfl (fun ls hl => ?_)
  refine lv_iconst (v := nI 0) hx hb dX0_checksum_4 rfl ?_
  refine lv_istore_n (lv' := [(3, .int (nI 0)), (1, .long 701), (0, .ref (AD (1 + c)))]) hx hb dX0_checksum_5 rfl hl (by decide) rfl (fun ls hl => ?_)
  have loop6 : ∀ (fuQ v : Nat), v ≤ 8 → 8 + 1 ≤ v + fuQ → ∀ (H : Heap) (locs : List Loc), gG Z A sS (wC Z AD M n) H locs → ∀ ls : Array Slot, lv_has ls 5 [(0, .ref (AD (1 + c))), (1, .long (dgN (tecF M c ns nm) 701 v)), (3, .int (nI v))] → W pP l eE ({ frames := 5, cells := 0, slots := 0, locals := 119 } : Room) sS mI aA bB mE cC H locs 0 0 (MQ bB (gQ Z A (some (.long (digF M c ns nm))) (wC Z AD M n)) aA sS 0 0 A) (F0 mI 6 ls []) := by
    intro fuQ
    induction fuQ with
    | zero =>
      intro v h1 h2
      exact absurd h2 (by omega)
    | succ fuQ ih6 =>
      intro v hleQ hfuQ H locs hG ls hl
      by_cases hlt : v < 8
      · refine lv_iload_n hx hb dX0_checksum_6 rfl (lv_at hl 2 rfl) ?_
        refine lv_bipush (v := 8) hx hb dX0_checksum_7 (by decide) ?_
        refine lv_icmp_ge (tgt := 31) hx hb dX0_checksum_9 (by decide) (fun h9 => absurd h9 (show ¬ (8 : Int32) ≤ nI v from nI_ge (b := 8) hlt (by decide))) (fun h9 => ?_)
        refine lv_lload_n hx hb dX0_checksum_12 rfl (lv_at hl 1 rfl) ?_
        refine lv_ldc2 hx hb F.2.2.2.1 (F.2.2.2.2.1 _ w1_215) dX0_checksum_13 ?_
        refine lv_lmul hx hb dX0_checksum_16 ?_
        refine lv_aload_n hx hb dX0_checksum_17 rfl (lv_at hl 0 rfl) ?_
        refine lv_iload_n hx hb dX0_checksum_18 rfl (lv_at hl 2 rfl) ?_
        refine gg_callV F hG (ci := 0) (As := [.int (nI v)]) (rest := [.long ((dgN (tecF M c ns nm) 701 v) * 31)]) (c_X0_tellCount Z l AD M _ hn c _ _ hc hS hM hZ v hlt) kY_X0_tellCount kV_X0_tellCount (gC_club hc hn) rfl rfl w1_216 rfl ⟨rfl, rfl⟩ ⟨(Nat.le_of_ble_eq_true rfl), (Nat.le_of_ble_eq_true rfl)⟩ rfl (Nat.le_of_ble_eq_true rfl) hl.1 ⟨Nat.zero_le _, Nat.zero_le _⟩ dX0_checksum_19 rfl (fun H locs hG => ?_)
        refine lv_i2l hx hb dX0_checksum_22 rfl ?_
        refine lv_ladd hx hb dX0_checksum_23 ?_
        refine lv_lstore_n (lv' := [(1, .long (((dgN (tecF M c ns nm) 701 v) * 31) + ((tecF M c ns nm v).toInt64))), (0, .ref (AD (1 + c))), (3, .int (nI v))]) hx hb dX0_checksum_24 rfl hl (by decide) rfl (fun ls hl => ?_)
        refine lv_iinc (v := nI (v + 1)) (lv' := [(3, .int (nI (v + 1))), (1, .long (((dgN (tecF M c ns nm) 701 v) * 31) + ((tecF M c ns nm v).toInt64))), (0, .ref (AD (1 + c)))]) hx hb dX0_checksum_25 hl (k := 2) rfl (nI_1 _) (by decide) rfl (fun ls hl => ?_)
        refine lv_goto (tgt := 6) hx hb dX0_checksum_28 (by decide) ?_
        exact ih6 (v + 1) (by omega) (by omega) _ _ hG ls (lv_sub hl [2, 1, 0] rfl)
      · have hN : 8 = v := by omega
        subst hN
        refine lv_iload_n hx hb dX0_checksum_6 rfl (lv_at hl 2 rfl) ?_
        refine lv_bipush (v := 8) hx hb dX0_checksum_7 (by decide) ?_
        refine lv_icmp_ge (tgt := 31) hx hb dX0_checksum_9 (by decide) (fun h9 => ?_) (fun h9 => absurd (show (8 : Int32) ≤ nI 8 by decide) h9)
        refine lv_iconst (v := nI 0) hx hb dX0_checksum_31 rfl ?_
        refine lv_istore_n (lv' := [(3, .int (nI 0)), (0, .ref (AD (1 + c))), (1, .long (dgN (tecF M c ns nm) 701 8))]) hx hb dX0_checksum_32 rfl hl (by decide) rfl (fun ls hl => ?_)
        have loop33 : ∀ (fuQ k : Nat), k ≤ ns → ns + 1 ≤ k + fuQ → ∀ (H : Heap) (locs : List Loc), gG Z A sS (wC Z AD M n) H locs → ∀ ls : Array Slot, lv_has ls 5 [(0, .ref (AD (1 + c))), (1, .long (dgS M c nm (dgN (tecF M c ns nm) 701 8) k)), (3, .int (nI k))] → W pP l eE ({ frames := 5, cells := 0, slots := 0, locals := 119 } : Room) sS mI aA bB mE cC H locs 0 0 (MQ bB (gQ Z A (some (.long (digF M c ns nm))) (wC Z AD M n)) aA sS 0 0 A) (F0 mI 33 ls []) := by
          intro fuQ
          induction fuQ with
          | zero =>
            intro k h1 h2
            exact absurd h2 (by omega)
          | succ fuQ ih33 =>
            intro k hleQ hfuQ H locs hG ls hl
            by_cases hlt : k < ns
            · refine lv_iload_n hx hb dX0_checksum_33 rfl (lv_at hl 2 rfl) ?_
              refine lv_aload_n hx hb dX0_checksum_34 rfl (lv_at hl 0 rfl) ?_
              refine gg_get F hG (ci := 0) (v := .int (nI ns)) 4 gcX0 rfl (gC_club hc hn) (by decide) w1_145 (congrArg (fun z => some (Value.int z)) hS.1) dX0_checksum_35 ?_
              refine lv_icmp_ge (tgt := 78) hx hb dX0_checksum_38 (by decide) (fun h38 => absurd h38 (nI_ge hlt (by omega))) (fun h38 => ?_)
              refine lv_iconst (v := nI 0) hx hb dX0_checksum_41 rfl ?_
              refine lv_istore (lv' := [(4, .int (nI 0)), (0, .ref (AD (1 + c))), (1, .long (dgS M c nm (dgN (tecF M c ns nm) 701 8) k)), (3, .int (nI k))]) hx hb dX0_checksum_42 hl (by decide) rfl (fun ls hl => ?_)
              have loop44 : ∀ (fuQ v : Nat), v ≤ 6 → 6 + 1 ≤ v + fuQ → ∀ (H : Heap) (locs : List Loc), gG Z A sS (wC Z AD M n) H locs → ∀ ls : Array Slot, lv_has ls 5 [(0, .ref (AD (1 + c))), (1, .long (dgN (tesF M c nm k) (dgS M c nm (dgN (tecF M c ns nm) 701 8) k) v)), (3, .int (nI k)), (4, .int (nI v))] → W pP l eE ({ frames := 5, cells := 0, slots := 0, locals := 119 } : Room) sS mI aA bB mE cC H locs 0 0 (MQ bB (gQ Z A (some (.long (digF M c ns nm))) (wC Z AD M n)) aA sS 0 0 A) (F0 mI 44 ls []) := by
                intro fuQ
                induction fuQ with
                | zero =>
                  intro v h1 h2
                  exact absurd h2 (by omega)
                | succ fuQ ih44 =>
                  intro v hleQ hfuQ H locs hG ls hl
                  by_cases hlt2 : v < 6
                  · refine lv_iload hx hb dX0_checksum_44 (lv_at hl 3 rfl) ?_
                    refine lv_bipush (v := 6) hx hb dX0_checksum_46 (by decide) ?_
                    refine lv_icmp_ge (tgt := 72) hx hb dX0_checksum_48 (by decide) (fun h48 => absurd h48 (show ¬ (6 : Int32) ≤ nI v from nI_ge (b := 6) hlt2 (by decide))) (fun h48 => ?_)
                    refine lv_lload_n hx hb dX0_checksum_51 rfl (lv_at hl 1 rfl) ?_
                    refine lv_ldc2 hx hb F.2.2.2.1 (F.2.2.2.2.1 _ w1_215) dX0_checksum_52 ?_
                    refine lv_lmul hx hb dX0_checksum_55 ?_
                    refine lv_aload_n hx hb dX0_checksum_56 rfl (lv_at hl 0 rfl) ?_
                    refine lv_iload_n hx hb dX0_checksum_57 rfl (lv_at hl 2 rfl) ?_
                    refine lv_iload hx hb dX0_checksum_58 (lv_at hl 3 rfl) ?_
                    refine gg_callV F hG (ci := 0) (As := [.int (nI k), .int (nI v)]) (rest := [.long ((dgN (tesF M c nm k) (dgS M c nm (dgN (tecF M c ns nm) 701 8) k) v) * 31)]) (c_X0_tellStation Z l AD M _ hn c _ _ k hc hS hM hZ hlt v hlt2) kY_X0_tellStation kV_X0_tellStation (gC_club hc hn) rfl rfl w2_1 rfl ⟨rfl, rfl⟩ ⟨(Nat.le_of_ble_eq_true rfl), (Nat.le_of_ble_eq_true rfl)⟩ rfl (Nat.le_of_ble_eq_true rfl) hl.1 ⟨Nat.zero_le _, Nat.zero_le _⟩ dX0_checksum_60 rfl (fun H locs hG => ?_)
                    refine lv_i2l hx hb dX0_checksum_63 rfl ?_
                    refine lv_ladd hx hb dX0_checksum_64 ?_
                    refine lv_lstore_n (lv' := [(1, .long (((dgN (tesF M c nm k) (dgS M c nm (dgN (tecF M c ns nm) 701 8) k) v) * 31) + ((tesF M c nm k v).toInt64))), (0, .ref (AD (1 + c))), (3, .int (nI k)), (4, .int (nI v))]) hx hb dX0_checksum_65 rfl hl (by decide) rfl (fun ls hl => ?_)
                    refine lv_iinc (v := nI (v + 1)) (lv' := [(4, .int (nI (v + 1))), (1, .long (((dgN (tesF M c nm k) (dgS M c nm (dgN (tecF M c ns nm) 701 8) k) v) * 31) + ((tesF M c nm k v).toInt64))), (0, .ref (AD (1 + c))), (3, .int (nI k))]) hx hb dX0_checksum_66 hl (k := 3) rfl (nI_1 _) (by decide) rfl (fun ls hl => ?_)
                    refine lv_goto (tgt := 44) hx hb dX0_checksum_69 (by decide) ?_
                    exact ih44 (v + 1) (by omega) (by omega) _ _ hG ls (lv_sub hl [2, 1, 3, 0] rfl)
                  · have hN : 6 = v := by omega
                    subst hN
                    refine lv_iload hx hb dX0_checksum_44 (lv_at hl 3 rfl) ?_
                    refine lv_bipush (v := 6) hx hb dX0_checksum_46 (by decide) ?_
                    refine lv_icmp_ge (tgt := 72) hx hb dX0_checksum_48 (by decide) (fun h48 => ?_) (fun h48 => absurd (show (6 : Int32) ≤ nI 6 by decide) h48)
                    refine lv_iinc (v := nI (k + 1)) (lv' := [(3, .int (nI (k + 1))), (0, .ref (AD (1 + c))), (1, .long (dgN (tesF M c nm k) (dgS M c nm (dgN (tecF M c ns nm) 701 8) k) 6)), (4, .int (nI 6))]) hx hb dX0_checksum_72 hl (k := 2) rfl (nI_1 _) (by decide) rfl (fun ls hl => ?_)
                    refine lv_goto (tgt := 33) hx hb dX0_checksum_75 (by decide) ?_
                    exact ih33 (k + 1) (by omega) (by omega) _ _ hG ls (lv_sub hl [1, 2, 0] rfl)
              exact loop44 (6 + 1) 0 (Nat.zero_le _) (by omega) _ _ hG ls (lv_sub hl [1, 2, 3, 0] rfl)
            · have hN : ns = k := by omega
              subst hN
              refine lv_iload_n hx hb dX0_checksum_33 rfl (lv_at hl 2 rfl) ?_
              refine lv_aload_n hx hb dX0_checksum_34 rfl (lv_at hl 0 rfl) ?_
              refine gg_get F hG (ci := 0) (v := .int (nI ns)) 4 gcX0 rfl (gC_club hc hn) (by decide) w1_145 (congrArg (fun z => some (Value.int z)) hS.1) dX0_checksum_35 ?_
              refine lv_icmp_ge (tgt := 78) hx hb dX0_checksum_38 (by decide) (fun h38 => ?_) (fun h38 => absurd (nI_le (Nat.le_refl _) (by omega)) h38)
              refine lv_iconst (v := nI 0) hx hb dX0_checksum_78 rfl ?_
              refine lv_istore_n (lv' := [(3, .int (nI 0)), (0, .ref (AD (1 + c))), (1, .long (dgS M c nm (dgN (tecF M c ns nm) 701 8) ns))]) hx hb dX0_checksum_79 rfl hl (by decide) rfl (fun ls hl => ?_)
              have loop80 : ∀ (fuQ i : Nat), i ≤ nm → nm + 1 ≤ i + fuQ → ∀ (H : Heap) (locs : List Loc), gG Z A sS (wC Z AD M n) H locs → ∀ ls : Array Slot, lv_has ls 5 [(0, .ref (AD (1 + c))), (1, .long (dgA M c ns (dgS M c nm (dgN (tecF M c ns nm) 701 8) ns) i)), (3, .int (nI i))] → W pP l eE ({ frames := 5, cells := 0, slots := 0, locals := 119 } : Room) sS mI aA bB mE cC H locs 0 0 (MQ bB (gQ Z A (some (.long (digF M c ns nm))) (wC Z AD M n)) aA sS 0 0 A) (F0 mI 80 ls []) := by
                intro fuQ
                induction fuQ with
                | zero =>
                  intro i h1 h2
                  exact absurd h2 (by omega)
                | succ fuQ ih80 =>
                  intro i hleQ hfuQ H locs hG ls hl
                  by_cases hlt : i < nm
                  · refine lv_iload_n hx hb dX0_checksum_80 rfl (lv_at hl 2 rfl) ?_
                    refine lv_aload_n hx hb dX0_checksum_81 rfl (lv_at hl 0 rfl) ?_
                    refine gg_get F hG (ci := 0) (v := .int (nI nm)) 5 gcX0 rfl (gC_club hc hn) (by decide) w1_147 (congrArg (fun z => some (Value.int z)) hM.1) dX0_checksum_82 ?_
                    refine lv_icmp_ge (tgt := 101) hx hb dX0_checksum_85 (by decide) (fun h85 => absurd h85 (nI_ge hlt (by omega))) (fun h85 => ?_)
                    refine lv_aload_n hx hb dX0_checksum_88 rfl (lv_at hl 0 rfl) ?_
                    refine lv_lload_n hx hb dX0_checksum_89 rfl (lv_at hl 1 rfl) ?_
                    refine lv_iload_n hx hb dX0_checksum_90 rfl (lv_at hl 2 rfl) ?_
                    refine gg_callV F hG (ci := 0) (As := [.long (dgA M c ns (dgS M c nm (dgN (tecF M c ns nm) 701 8) ns) i), .int (nI i)]) (rest := []) (c_X0_withMember Z l AD M _ hn c _ _ i hc hS hM hZ hlt (dgA M c ns (dgS M c nm (dgN (tecF M c ns nm) 701 8) ns) i)) kY_X0_withMember kV_X0_withMember (gC_club hc hn) rfl rfl w2_18 rfl ⟨rfl, rfl⟩ ⟨(Nat.le_of_ble_eq_true rfl), (Nat.le_of_ble_eq_true rfl)⟩ rfl (Nat.le_of_ble_eq_true rfl) hl.1 ⟨Nat.zero_le _, Nat.zero_le _⟩ dX0_checksum_91 rfl (fun H locs hG => ?_)
                    refine lv_lstore_n (lv' := [(1, .long (dgM M ns (8 * c + i) (dgA M c ns (dgS M c nm (dgN (tecF M c ns nm) 701 8) ns) i))), (0, .ref (AD (1 + c))), (3, .int (nI i))]) hx hb dX0_checksum_94 rfl hl (by decide) rfl (fun ls hl => ?_)
                    refine lv_iinc (v := nI (i + 1)) (lv' := [(3, .int (nI (i + 1))), (1, .long (dgM M ns (8 * c + i) (dgA M c ns (dgS M c nm (dgN (tecF M c ns nm) 701 8) ns) i))), (0, .ref (AD (1 + c)))]) hx hb dX0_checksum_95 hl (k := 2) rfl (nI_1 _) (by decide) rfl (fun ls hl => ?_)
                    refine lv_goto (tgt := 80) hx hb dX0_checksum_98 (by decide) ?_
                    exact ih80 (i + 1) (by omega) (by omega) _ _ hG ls (lv_sub hl [2, 1, 0] rfl)
                  · have hN : nm = i := by omega
                    subst hN
                    refine lv_iload_n hx hb dX0_checksum_80 rfl (lv_at hl 2 rfl) ?_
                    refine lv_aload_n hx hb dX0_checksum_81 rfl (lv_at hl 0 rfl) ?_
                    refine gg_get F hG (ci := 0) (v := .int (nI nm)) 5 gcX0 rfl (gC_club hc hn) (by decide) w1_147 (congrArg (fun z => some (Value.int z)) hM.1) dX0_checksum_82 ?_
                    refine lv_icmp_ge (tgt := 101) hx hb dX0_checksum_85 (by decide) (fun h85 => ?_) (fun h85 => absurd (nI_le (Nat.le_refl _) (by omega)) h85)
                    refine lv_lload_n hx hb dX0_checksum_101 rfl (lv_at hl 1 rfl) ?_
                    refine lv_aload_n hx hb dX0_checksum_102 rfl (lv_at hl 0 rfl) ?_
                    refine gg_get F hG (ci := 0) (v := .ref (AD (42 + (16 + c)))) 2 gcX0 rfl (gC_club hc hn) (by decide) w1_142 rfl dX0_checksum_103 ?_
                    refine gg_callS F hG (As := [.long (dgA M c ns (dgS M c nm (dgN (tecF M c ns nm) 701 8) ns) nm), .ref (AD (42 + (16 + c)))]) (rest := []) (c_X0_withRows_L Z l AD M _ hn c hc hT.1 hT.2.1 (dgA M c ns (dgS M c nm (dgN (tecF M c ns nm) 701 8) ns) nm)) kY_X0_withRows kV_X0_withRows w2_36 rfl ⟨rfl, rfl⟩ ⟨(Nat.le_of_ble_eq_true rfl), (Nat.le_of_ble_eq_true rfl)⟩ rfl (Nat.le_of_ble_eq_true rfl) hl.1 ⟨Nat.zero_le _, Nat.zero_le _⟩ dX0_checksum_106 rfl (fun H locs hG => ?_)
                    exact gg_lret F hG rfl rfl dX0_checksum_109
              exact loop80 (nm + 1) 0 (Nat.zero_le _) (by omega) _ _ hG ls (lv_sub hl [1, 2, 0] rfl)
        exact loop33 (ns + 1) 0 (Nat.zero_le _) (by omega) _ _ hG ls (lv_sub hl [1, 2, 0] rfl)
  exact loop6 (8 + 1) 0 (Nat.zero_le _) (by omega) _ _ hG ls (lv_sub hl [2, 1, 0] rfl)
