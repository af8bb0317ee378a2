/-! the law's loop -/
theorem LI.mono {Z : gZ} {ax Hm Hm2 : Nat} {ws : va_W} {N : St} (h : LI Z ax Hm ws N) (hle : Hm ≤ Hm2) : LI Z ax Hm2 ws N := by
  obtain ⟨AD, M, ns, nm, H, h1, h2, h3, h4⟩ := h
  exact ⟨AD, M, ns, nm, H, h1, h2, h3, Nat.le_trans h4 hle⟩
set_option maxRecDepth 100000 in
set_option maxHeartbeats 4000000 in
theorem law_loop {p : Program} {l : Launch} {e : Env} {s : State} {m : MethodId} {below : List Frame} {meth : Method} {c : Code} {Z : gZ} {cL : ClassId} {b L : Nat} {xs : Nat → Int32} (S : lawS p l s m meth c Z cL (fun q : Nat => s.heap.size ≤ q) b L xs) {ax o : Nat} {AR : Nat → Nat} : ∀ k j : Nat, j + k = 513 → ∀ (H : Heap) (locs : List Loc) (ws1 : va_W) (N : St) (f : Nat → Int64) (ls : Array Slot), LI Z ax (240 * j) ws1 N → gG Z (fun q : Nat => s.heap.size ≤ q) s ((ws1 ++ [(o, outE cL f)]) ++ wR Z AR N 16) H locs → lv_has ls 9 [(0, .ref b), (1, .ref ax), (2, .ref (AR 0)), (3, .ref o), (4, .int (nI (7 * j)))] → W p l e room_1 s m #[Value.ref b] below meth c H locs (95 + 2 * j) (5854 + 12 * j) (lw_Z below #[Value.ref b] s) (F0 m 23 ls []) := by
  intro k
  induction k with
  | zero =>
    intro j hj H locs ws1 N f ls hI G hl
    obtain ⟨F, hxK, hxZ, hKL, hnC, hX, hbl, hbA, hL3, hst⟩ := id S
    have hx := F.1
    have hb := F.2.1
    refine lv_iload hx hb dL_law_23 (lv_at hl 4 rfl) ?_
    refine lv_aload_n hx hb dL_law_25 rfl (lv_at hl 0 rfl) ?_
    refine va_slen hx hb hX hbl hbA G.2.2.1 dL_law_26 ?_
    refine lv_bipush (v := 7) hx hb dL_law_27 rfl ?_
    refine lv_isub hx hb dL_law_29 ?_
    refine lv_icmp_gt (tgt := 1530) hx hb dL_law_30 (by decide) (fun _ => ?_) (fun h => ?_)
    · refine lv_iconst (v := 1) hx hb dL_law_1530 (by decide) ?_
      refine va_forget (fun q hq => G.2.2.1.2.2 q hq) ?_
      refine W.widen (k := 601024) (n := 7293034) (by omega) (by omega) ?_
      exact lw_ret (d0 := s.drawn) (Drawn.sameBut.refl s.drawn lw_cs) hx hb F.2.2.2.2.2.2.1 F.2.2.2.2.2.2.2 dL_law_1531
    · exfalso
      apply h
      refine i_lt.mpr ?_
      have e : (nI L - 7 : Int32).toInt = (L : Int) - 7 := pk_sub_toInt (b := 7) (by omega) (by omega)
      show (nI L - 7 : Int32).toInt < (nI (7 * j)).toInt
      rw [e, nI_toInt (by omega)]
      omega
  | succ k ih =>
    intro j hj H locs ws1 N f ls hI G hl
    obtain ⟨F, hxK, hxZ, hKL, hnC, hX, hbl, hbA, hL3, hst⟩ := id S
    have hx := F.1
    have hb := F.2.1
    refine lv_iload hx hb dL_law_23 (lv_at hl 4 rfl) ?_
    refine lv_aload_n hx hb dL_law_25 rfl (lv_at hl 0 rfl) ?_
    refine va_slen hx hb hX hbl hbA G.2.2.1 dL_law_26 ?_
    refine lv_bipush (v := 7) hx hb dL_law_27 rfl ?_
    refine lv_isub hx hb dL_law_29 ?_
    refine lv_icmp_gt (tgt := 1530) hx hb dL_law_30 (by decide) (fun _ => ?_) (fun h => ?_)
    · refine lv_iconst (v := 1) hx hb dL_law_1530 (by decide) ?_
      refine va_forget (fun q hq => G.2.2.1.2.2 q hq) ?_
      refine W.widen (k := 601024) (n := 7293034) (by omega) (by omega) ?_
      exact lw_ret (d0 := s.drawn) (Drawn.sameBut.refl s.drawn lw_cs) hx hb F.2.2.2.2.2.2.1 F.2.2.2.2.2.2.2 dL_law_1531
    · have hi : 7 * j + 6 < L := by
        rcases Nat.lt_or_ge (7 * j + 6) L with z | z
        · exact z
        · exfalso
          apply h
          refine i_lt.mpr ?_
          have e : (nI L - 7 : Int32).toInt = (L : Int) - 7 := pk_sub_toInt (b := 7) (by omega) (by omega)
          show (nI L - 7 : Int32).toInt < (nI (7 * j)).toInt
          rw [e, nI_toInt (by omega)]
          omega
      have hroom : 95 + 2 * j + 2 ≤ room_1.cells ∧ 5854 + 12 * j + 12 ≤ room_1.slots := ⟨by show 95 + 2 * j + 2 ≤ 601024; omega, by show 5854 + 12 * j + 12 ≤ 7293034; omega⟩
      have kk : LK p l e s m below meth c (lw_Z below #[Value.ref b] s) Z cL (fun q : Nat => s.heap.size ≤ q) b (7 * j) ax o AR (240 * j + 240) (95 + 2 * j + 2) (5854 + 12 * j + 12) := by
        intro H locs ws2 g N' ls hI G hl
        refine lv_iinc (k := 4) (v := nI (7 * (j + 1))) (lv' := [(4, .int (nI (7 * (j + 1)))), (0, .ref b), (1, .ref ax), (2, .ref (AR 0)), (3, .ref o)]) hx hb dL_law_1524 hl rfl ?_ (by decide) rfl (fun ls hl => ?_)
        · show nI (7 * j) + nI 7 = _
          rw [nI_add]
          rfl
        · refine lv_goto (tgt := 23) hx hb dL_law_1527 (by decide) ?_
          exact ih (j + 1) (by omega) H locs ws2 N' g ls hI G (lv_sub hl [1, 2, 3, 4, 0] rfl)
      have hHm : 240 * j ≤ 200000 := by omega
      refine lv_aload_n hx hb dL_law_33 rfl (lv_at hl 0 rfl) ?_
      refine lv_iload hx hb dL_law_34 (lv_at hl 4 rfl) ?_
      refine gl_sld F G hX hbl hbA (show 7 * j < L by omega) hL3 dL_law_36 ?_
      refine lv_bipush (v := 31) hx hb dL_law_37 rfl ?_
      refine lv_iand hx hb dL_law_39 ?_
      obtain ⟨n, hn, en⟩ := pk_andE (xs (7 * j)) (m := 31) 5 (by decide)
      rw [show xs (7 * j) &&& 31 = nI n from en]
      by_cases h21 : n < 21
      · rcases (show n = 0 ∨ n = 1 ∨ n = 2 ∨ n = 3 ∨ n = 4 ∨ n = 5 ∨ n = 6 ∨ n = 7 ∨ n = 8 ∨ n = 9 ∨ n = 10 ∨ n = 11 ∨ n = 12 ∨ n = 13 ∨ n = 14 ∨ n = 15 ∨ n = 16 ∨ n = 17 ∨ n = 18 ∨ n = 19 ∨ n = 20 by omega) with rfl | rfl | rfl | rfl | rfl | rfl | rfl | rfl | rfl | rfl | rfl | rfl | rfl | rfl | rfl | rfl | rfl | rfl | rfl | rfl | rfl
        · exact lv_tableIn (tgt := 140) hx hb dL_law_40 (by decide) (by decide) rfl (by decide) (do_addStation S hi hI hHm hl G hroom kk)
        · exact lv_tableIn (tgt := 258) hx hb dL_law_40 (by decide) (by decide) rfl (by decide) (do_join S hi hI hHm hl G hroom kk)
        · exact lv_tableIn (tgt := 326) hx hb dL_law_40 (by decide) (by decide) rfl (by decide) (do_turn S hi hI hHm hl G hroom kk)
        · exact lv_tableIn (tgt := 394) hx hb dL_law_40 (by decide) (by decide) rfl (by decide) (do_wind S hi hI hHm hl G hroom kk)
        · exact lv_tableIn (tgt := 462) hx hb dL_law_40 (by decide) (by decide) rfl (by decide) (do_listen S hi hI hHm hl G hroom kk)
        · exact lv_tableIn (tgt := 553) hx hb dL_law_40 (by decide) (by decide) rfl (by decide) (do_renew S hi hI hHm hl G hroom kk)
        · exact lv_tableIn (tgt := 609) hx hb dL_law_40 (by decide) (by decide) rfl (by decide) (do_station S hi hI hHm hl G hroom kk)
        · exact lv_tableIn (tgt := 677) hx hb dL_law_40 (by decide) (by decide) rfl (by decide) (do_member S hi hI hHm hl G hroom kk)
        · exact lv_tableIn (tgt := 745) hx hb dL_law_40 (by decide) (by decide) rfl (by decide) (do_strength S hi hI hHm hl G hroom kk)
        · exact lv_tableIn (tgt := 813) hx hb dL_law_40 (by decide) (by decide) rfl (by decide) (do_hears S hi hI hHm hl G hroom kk)
        · exact lv_tableIn (tgt := 869) hx hb dL_law_40 (by decide) (by decide) rfl (by decide) (do_log S hi hI hHm hl G hroom kk)
        · exact lv_tableIn (tgt := 949) hx hb dL_law_40 (by decide) (by decide) rfl (by decide) (do_write S hi hI hHm hl G hroom kk)
        · exact lv_tableIn (tgt := 1017) hx hb dL_law_40 (by decide) (by decide) rfl (by decide) (do_pass S hi hI hHm hl G hroom kk)
        · exact lv_tableIn (tgt := 1073) hx hb dL_law_40 (by decide) (by decide) rfl (by decide) (do_count S hi hI hHm hl G hroom kk)
        · exact lv_tableIn (tgt := 1129) hx hb dL_law_40 (by decide) (by decide) rfl (by decide) (do_rank S hi hI hHm hl G hroom kk)
        · exact lv_tableIn (tgt := 1185) hx hb dL_law_40 (by decide) (by decide) rfl (by decide) (do_dial S hi hI hHm hl G hroom kk)
        · exact lv_tableIn (tgt := 1253) hx hb dL_law_40 (by decide) (by decide) rfl (by decide) (do_next S hi hI hHm hl G hroom kk)
        · exact lv_tableIn (tgt := 1321) hx hb dL_law_40 (by decide) (by decide) rfl (by decide) (do_apart S hi hI hHm hl G hroom kk)
        · exact lv_tableIn (tgt := 1401) hx hb dL_law_40 (by decide) (by decide) rfl (by decide) (do_foresee S hi hI hHm hl G hroom kk)
        · exact lv_tableIn (tgt := 1469) hx hb dL_law_40 (by decide) (by decide) rfl (by decide) (do_mean S hi hI hHm hl G hroom kk)
        · exact lv_tableIn (tgt := 1510) hx hb dL_law_40 (by decide) (by decide) rfl (by decide) (do_digest S hi hI hHm hl G hroom kk)
      · refine lv_tableOut (tgt := 1524) hx hb dL_law_40 (Or.inr ?_) (by decide) ?_
        · rw [nI_toInt (by omega)]
          omega
        · exact W.widen (by omega) (by omega) (kk H locs ws1 f N ls (hI.mono (by omega)) G hl)
