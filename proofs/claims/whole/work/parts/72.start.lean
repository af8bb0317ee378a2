/-! the law from its entry -/
theorem tb_1 {w : Cond} (h : w ∈ tables_1_1) : w ∈ lw_tbl := List.mem_append_right _ (List.mem_append_left _ h)
theorem tb_2 {w : Cond} (h : w ∈ tables_1_2) : w ∈ lw_tbl := List.mem_append_right _ (List.mem_append_right _ (List.mem_append_left _ h))
theorem tb_3 {w : Cond} (h : w ∈ tables_1_3) : w ∈ lw_tbl := List.mem_append_right _ (List.mem_append_right _ (List.mem_append_right _ (List.mem_append_left _ h)))
theorem tb_4 {w : Cond} (h : w ∈ tables_1_4) : w ∈ lw_tbl := List.mem_append_right _ (List.mem_append_right _ (List.mem_append_right _ (List.mem_append_right _ (List.mem_append_left _ h))))
theorem tb_5 {w : Cond} (h : w ∈ tables_1_5) : w ∈ lw_tbl := List.mem_append_right _ (List.mem_append_right _ (List.mem_append_right _ (List.mem_append_right _ (List.mem_append_right _ (h)))))
theorem g_nwA {s : State} {args : Array Value} {w : Cond} (hn : g_isN w = true) (h : w.before args s = true) : va_Nw w s := by
  cases w <;> first | exact va_Nw.of rfl h | (simp [g_isN] at hn; done) | exact h
theorem xB_tbl : ∀ w ∈ xB, w ∈ lw_tbl := by decide +kernel
theorem xT_tbl : ∀ q ∈ xTx, Cond.stringRef RX6 q.1 q.2 ∈ lw_tbl := by decide +kernel
theorem zL_tbl : Cond.laysStatic Bundle.tN "UNASSIGNED_STACK" Bundle.steD ∈ lw_tbl ∧ Cond.laysStatic Bundle.tN "SUPPRESSED_SENTINEL" Bundle.listD ∈ lw_tbl ∧ Cond.initialized Bundle.tN ∈ lw_tbl := by decide +kernel
/-- the classes as the tables have them -/
theorem start_K {s : State} {b : Nat} (hts : ∀ w ∈ gW, w.before #[Value.ref b] s = true) (hnW : ∀ w ∈ nW, va_Nw w s) : ∃ Z : gZ, gK Z s := by
  obtain ⟨c0, i0, h0⟩ := u_known (C := RX0) (T := TX0) (N := 7) hts gcX0.1 (hts _ w1_28)
  obtain ⟨c1, i1, h1⟩ := u_known (C := RX1) (T := TX1) (N := 6) hts gcX1.1 (hts _ w1_43)
  obtain ⟨c2, i2, h2⟩ := u_known (C := RX2) (T := TX2) (N := 4) hts gcX2.1 (hts _ w1_121)
  obtain ⟨c3, i3, h3⟩ := u_known (C := RX3) (T := TX3) (N := 3) hts gcX3.1 (hts _ w1_37)
  obtain ⟨c4, i4, h4⟩ := u_known (C := RX4) (T := TX4) (N := 6) hts gcX4.1 (hts _ w2_138)
  obtain ⟨c5, i5, h5⟩ := u_known (C := RX5) (T := TX5) (N := 3) hts gcX5.1 (hts _ w1_79)
  obtain ⟨c6, i6, h6⟩ := u_known (C := RX6) (T := TX6) (N := 3) hts gcX6.1 (hts _ w1_20)
  obtain ⟨c7, i7, h7⟩ := u_known (C := RX7) (T := TX7) (N := 9) hts gcX7.1 (hts _ w4_34)
  obtain ⟨c8, i8, h8⟩ := u_known (C := RX8) (T := TX8) (N := 10) hts gcX8.1 (hts _ w4_28)
  obtain ⟨cI, kI, compI, a1, a2, a3⟩ := Cond.arrayClass_spec (hts _ w1_101)
  obtain ⟨compM, cM, kM, m1, m2, m3, m4, m5⟩ := Cond.arrayOver_spec (hnW _ wn_54)
  obtain ⟨compS, cS, kS, s1, s2, s3, s4, s5⟩ := Cond.arrayOver_spec (hnW _ wn_53)
  refine ⟨((fun k => if k = 0 then c0 else if k = 1 then c1 else if k = 2 then c2 else if k = 3 then c3 else if k = 4 then c4 else if k = 5 then c5 else if k = 6 then c6 else if k = 7 then c7 else c8, fun k => if k = 0 then i0 else if k = 1 then i1 else if k = 2 then i2 else if k = 3 then i3 else if k = 4 then i4 else if k = 5 then i5 else if k = 6 then i6 else if k = 7 then i7 else i8), cI, cM, cS), ⟨fun k q hq => ?_, fun k q hq => ?_⟩, hnW⟩
  · match k, hq with
    | 0, hq => cases hq; exact h0
    | 1, hq => cases hq; exact h1
    | 2, hq => cases hq; exact h2
    | 3, hq => cases hq; exact h3
    | 4, hq => cases hq; exact h4
    | 5, hq => cases hq; exact h5
    | 6, hq => cases hq; exact h6
    | 7, hq => cases hq; exact h7
    | 8, hq => cases hq; exact h8
    | k + 9, hq => simp at hq
  · match k, hq with
    | 0, hq => cases hq; exact ⟨fun n z => ⟨(fun k h => by cases h), kI, a2, compI, a3⟩, a1⟩
    | 1, hq => cases hq; exact ⟨fun n z => ⟨(fun k h => by cases h), kM, m3, compM, m4⟩, kM, compM, m3, m4, m1, m5⟩
    | 2, hq => cases hq; exact ⟨fun n z => ⟨(fun k h => by cases h), kS, s3, compS, s4⟩, kS, compS, s3, s4, s1, s5⟩
    | k + 3, hq => simp at hq
theorem rel_0 : Rel M00 M00 0 0 0 := by
  refine ⟨⟨⟨⟨by omega, by omega⟩, fun k hk => absurd hk (by omega), fun i hi => absurd hi (by omega), rfl, rfl⟩, ⟨0, ⟨by omega, rfl, rfl⟩, fun k hk => absurd hk (by omega), fun k1 k2 _ h => absurd h (by omega)⟩, rfl, rfl⟩, ⟨rfl, by omega, by omega, fun k hk => absurd hk (by omega)⟩, ⟨rfl, by omega⟩, fun c i _ h => absurd rfl h, ⟨rfl, rfl⟩, fun i _ _ => ⟨rfl, rfl⟩⟩
set_option maxRecDepth 100000 in
set_option maxHeartbeats 4000000 in
/-- the law, from its entry -/
theorem whole_start {p : Program} {e : Env} {s : State} {m : MethodId} {below : List Frame} {meth : Method} {c : Code} (l : Launch) (hflags : l.flags = flags0) {b L : Nat} {xs : Nat → Int32} (hL : L ≤ 3584) (C0 : lw_At p s m meth c b L xs) : W p l e room_1 s m #[Value.ref b] below meth c s.heap [] 0 0 (lw_Z below #[Value.ref b] s) (entryFrame m ([Value.ref b] : List Value).toArray 9) := by
  obtain ⟨hx, hb, hr, hml, hown, hts, hX, hbl, hlocks, hgv⟩ := C0
  have hbA : ¬ (fun q : Nat => s.heap.size ≤ q) b := Nat.not_le.mpr hbl
  have hst : l.stackTraces = false := by
    unfold Launch.stackTraces
    rw [hflags]
    decide +kernel
  have htsG : ∀ w ∈ gW, w.before #[Value.ref b] s = true := fun w h => hts w (gW_tbl w h)
  have hnW : ∀ w ∈ nW, va_Nw w s := fun w h => g_nwA (nW_isN w h) (hts w (nW_tbl w h))
  obtain ⟨Z, hK⟩ := start_K htsG hnW
  have hflat := flat_of_before _ hgv
  have F : gF Z p m s #[Value.ref b] meth c cL_law 9 RL ret := ⟨hx, hb, hml, hown, htsG, hK, hr, hlocks⟩
  have hxK : xK s := by
    refine ⟨fun w hw => va_tabs (xB_ok w hw).1 rfl (hts w (xB_tbl w hw)), fun q hq => ?_⟩
    have h1 := hts _ (xT_tbl q hq)
    obtain ⟨k, cf, i, a, -, -, -, -, -, h2⟩ := Cond.stringRef_spec (hK.1.1 6 _ rfl).2.1 h1
    exact ⟨a, vk_R.of h1 h2⟩
  have hA0 : ∀ a : Nat, a < s.heap.size → ¬ (fun q : Nat => s.heap.size ≤ q) a := fun a h => Nat.not_le.mpr h
  have hxZ : xZ (fun q : Nat => s.heap.size ≤ q) s s.heap := ⟨vx_Zqof (hts _ zL_tbl.1) (hts _ zL_tbl.2.2) (hflat _ (by decide +kernel)) hA0, vx_Zqof (hts _ zL_tbl.2.1) (hts _ zL_tbl.2.2) (hflat _ (by decide +kernel)) hA0⟩
  have hnC : nC s := ⟨va_Nc.of (hflat _ (by decide +kernel)), va_Nc.of (hflat _ (by decide +kernel)), va_Nc.of (hflat _ (by decide +kernel)), va_Nc.of (hflat _ (by decide +kernel))⟩
  have G : gG Z (fun q : Nat => s.heap.size ≤ q) s [] s.heap [] := ⟨fun k q h => by simp at h, ⟨fun i j p q h => by simp at h, fun k q h => by simp at h⟩, va_S.rf, fun _ h => h⟩
  have hl := lv_entry ([.ref b]) (n := 9) (Nat.le_of_ble_eq_true rfl)
  rw [lg_entry_eq]
  generalize (lg_sl ([.ref b]) ++ List.replicate (9 - (lg_sl ([.ref b])).length) Slot.unset).toArray = ls at hl ⊢
  have hl : lv_has ls 9 [(0, .ref b)] := hl
  refine gg_new F G (ci := 6) gcX6 w1_19 w1_20 w1_1 rfl (fs := [.null, .null, .null]) (fun j hj => by rcases (show j = 0 ∨ j = 1 ∨ j = 2 by omega) with rfl | rfl | rfl <;> rfl) (Nat.le_of_ble_eq_true rfl) (Nat.le_of_ble_eq_true rfl) dL_law_0 (fun a H G => ?_)
  refine lv_dup hx hb dL_law_3 rfl ?_
  refine ge_callI F (X := []) (G.to (List.append_nil _).symm) (As := []) (rest := [.ref a]) (c_X6_init Z l a) kY_X6_init kV_X6_init w1_21 rfl ⟨rfl, rfl⟩ ⟨Nat.le_of_ble_eq_true rfl, Nat.le_of_ble_eq_true rfl⟩ rfl (Nat.le_of_ble_eq_true rfl) hl.1 ⟨Nat.le_of_ble_eq_true rfl, Nat.le_of_ble_eq_true rfl⟩ dL_law_4 rfl (fun H locs w hw G => ?_)
  obtain ⟨p1, c1, q1, q2, f, q3, q4, q5, c2, r1, r2, g, r3, r4, r5, rfl⟩ := hw
  have G := (gG.swap G (fun A' h1 h2 => rootE_C h1 h2)).to (List.append_nil _)
  refine lv_astore_n (lv' := [(1, .ref a), (0, .ref b)]) hx hb dL_law_7 rfl hl (by decide) rfl (fun ls hl => ?_)
  refine gg_new F G (ci := 8) gcX8 w4_27 w4_28 w1_8 rfl (fs := [.int 0, .int 0, .int 0, .null, .null, .null, .null, .null, .null, .null]) (fun j hj => by rcases (show j = 0 ∨ j = 1 ∨ j = 2 ∨ j = 3 ∨ j = 4 ∨ j = 5 ∨ j = 6 ∨ j = 7 ∨ j = 8 ∨ j = 9 by omega) with rfl | rfl | rfl | rfl | rfl | rfl | rfl | rfl | rfl | rfl <;> rfl) (Nat.le_of_ble_eq_true rfl) (Nat.le_of_ble_eq_true rfl) dL_law_8 (fun am H G => ?_)
  refine lv_dup hx hb dL_law_11 rfl ?_
  refine ge_callI F G.comm (As := []) (rest := [.ref am]) (c_X8_init Z l am) kY_X8_init kV_X8_init w4_29 rfl ⟨rfl, rfl⟩ ⟨Nat.le_of_ble_eq_true rfl, Nat.le_of_ble_eq_true rfl⟩ rfl (Nat.le_of_ble_eq_true rfl) hl.1 ⟨Nat.le_of_ble_eq_true rfl, Nat.le_of_ble_eq_true rfl⟩ dL_law_12 rfl (fun H locs w hw G => ?_)
  obtain ⟨y1, y2, y3, y4, y5, y6, y7, y8, y9, y10, y11, y12, y13, y14, y15, rfl⟩ := hw
  have G := gG.swap G (fun A' h1 h2 => modE_R h1 h2)
  refine lv_astore_n (lv' := [(2, .ref am), (1, .ref a), (0, .ref b)]) hx hb dL_law_15 rfl hl (by decide) rfl (fun ls hl => ?_)
  refine lv_iconst (v := 1) hx hb dL_law_16 (by decide) ?_
  refine va_newa (atype := .long) hx hb (htsG _ w5_67) (ty := .long) rfl hK.1 G.1 G.2.1 G.2.2.1 G.2.2.2 (a0 := (1, .inr (.inl (fun _ => 0)))) (fun _ => rfl) (by decide) (N' := 1) (by decide) (Nat.le_of_ble_eq_true rfl) (Nat.le_of_ble_eq_true rfl) (Nat.le_of_ble_eq_true rfl) dL_law_17 (fun o cL H hK2 hP hD hS => ?_)
  have hKL : gKL Z cL s := hK2.sub (tys' := [(cL, .long)]) [3] rfl
  have G := (gG.to ⟨hP, hD, hS, G.2.2.2⟩ (List.append_assoc _ _ _)).comm
  refine lv_astore_n (lv' := [(3, .ref o), (2, .ref am), (1, .ref a), (0, .ref b)]) hx hb dL_law_19 rfl hl (by decide) rfl (fun ls hl => ?_)
  refine lv_iconst (v := 0) hx hb dL_law_20 (by decide) ?_
  refine lv_istore (lv' := [(4, .int 0), (3, .ref o), (2, .ref am), (1, .ref a), (0, .ref b)]) hx hb dL_law_21 hl (by decide) rfl (fun ls hl => ?_)
  refine W.widen (k := 95) (n := 5854) (Nat.le_of_ble_eq_true rfl) (Nat.le_of_ble_eq_true rfl) ?_
  exact law_loop (cL := cL) ⟨F, hxK, hxZ, hKL, hnC, hX, hbl, hbA, hL, hst⟩ 513 0 rfl H locs _ M00 _ ls ⟨_, M00, 0, 0, 0, rfl, rfl, rel_0, by omega⟩ G (lv_sub hl [4, 3, 2, 1, 0] rfl)
