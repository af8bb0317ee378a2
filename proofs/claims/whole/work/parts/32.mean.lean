/-! the mean: no NaN can come, so nothing is drawn -/
theorem fp_ok {a b : Int32} (h : ¬ b = 0) : vf_n64 (FP.ddiv (FP.i2d a) (FP.i2d b)) := by
  have h1 : FP.Core.dIsNaN (FP.Core.ddiv (FP.Core.i2d a) (FP.Core.i2d b)) = false := FP.Core.ddiv_out (FP.Core.i2d_fin a).notNaN (FP.Core.i2d_fin b) (fun z => FP.Core.i2d_ne_zero h ((FP.Core.zero_bits2 _).mp z))
  have h2 : vf_n64 (FP.Core.ddiv (FP.Core.i2d a) (FP.Core.i2d b)) := by
    generalize FP.Core.ddiv (FP.Core.i2d a) (FP.Core.i2d b) = r at h1 ⊢
    rw [FP.Core.notNaN_iff] at h1
    have h3 : r.toNat % 2 ^ 63 ≤ 9218868437227405312 := by
      refine Nat.le_of_not_lt fun h => h1 ?_
      show FP.Core.decode FP.Core.b64 r.toNat = .nan
      exact (FP.Core.decode_nan (f := FP.Core.b64) r.toNat).mpr (by rw [FP.Core.mag_toNat64, FP.Core.infBits_b64]; exact h)
    unfold vf_n64
    rw [UInt64.le_iff_toNat_le, UInt64.toNat_and]
    rw [show (0x7fffffffffffffff : UInt64).toNat = 2 ^ 63 - 1 from rfl, Nat.and_two_pow_sub_one_eq_mod]
    exact h3
  exact h2
section GROWS20
variable {p : Program} {l : Launch} {e : Env} {R : Room} {s : State} {m : MethodId} {args : Array Value} {below : List Frame} {meth : Method} {c : Code} {H : Heap} {locs : List Loc} {cells slots : Nat} {Q : State → Prop}
variable {Z : gZ} {A : Nat → Prop} {ws ws' : va_W} {cc : ByteArray} {nL pc : Nat} {own : String} {ls : Array Slot}
theorem gg_dret (F : gF Z p m s args meth c cc nL own (some .double)) (G : gG Z A s ws H locs) {x v : UInt64} (hv : x = v) (hw : ws = ws') (hdg : decode cc pc = .ok (.dreturn, 1)) : W p l e R s m args below meth c H locs cells slots (MQ below (gQ Z A (some (.double v)) ws') args s cells slots A) (F0 m pc ls [.double x]) := by
  subst hv; subst hw
  have hlocks := F.2.2.2.2.2.2.2
  exact W.dret F.1 F.2.1 F.2.2.2.2.2.2.1 (fun t ht hW => ⟨⟨rfl, by rw [ht]; exact G.1, G.2.1⟩, G.2.2.1.F ht⟩) G.2.2.1.2.2 hdg
end GROWS20
def mnF (M : St) (nm : Nat) : UInt64 := if allF M 0 nm ≤ 0 then FP.dconst0 else FP.ddiv (FP.i2d (solF M 0 2 nm)) (FP.i2d (allF M 0 nm))
def msI (M : St) (i : Nat) (s : Int32) : Nat → Int32
  | 0 => s
  | k + 1 => msI M i s k + M 14 0 (4 * (40 * i + k) + 2)
def msO (M : St) : Nat → Int32
  | 0 => 0
  | i + 1 => msI M i (msO M i) (szR M 0 i)
def mnR (M : St) (nm : Nat) : UInt64 := if M 10 0 0 = 0 then FP.dconst0 else FP.ddiv (FP.i2d (msO M nm)) (FP.i2d (M 10 0 0))
set_option maxRecDepth 100000 in
set_option maxHeartbeats 4000000 in
theorem c_X6_mean (Z : gZ) (l : Launch) (AD : Nat → Nat) (M : St) (n : Nat) (hn : 78 ≤ n) (nm : Nat) (hM : okM M 0 nm) (hZ : okZ M 0 nm) : gM Z l yX6_mean cX6_mean 2 (some .double) ({ frames := 4, cells := 0, slots := 0, locals := 90 } : Room) [.ref (AD 0)] (wC Z AD M n) (some (.double (mnF M nm))) (wC Z AD M n) 0 0 := by
  refine gM_of (by decide +kernel) (Nat.le_of_ble_eq_true rfl) ?_
  intro pP eE sS mI aA bB mE cC A F hname hG ls hl
  have hx := F.1
  have hb := F.2.1
  have hl : lv_has ls 2 [(0, .ref (AD 0))] := hl
  refine lv_aload_n hx hb dX6_mean_0 rfl (lv_at hl 0 rfl) ?_
  refine gg_get F hG (ci := 6) (v := .ref (AD (1 + 0))) 0 gcX6 rfl (gC_root hn) (by decide) w1_168 rfl dX6_mean_1 ?_
  refine gg_callV F hG (ci := 0) (As := []) (rest := []) (c_X0_allLines Z l AD M _ hn 0 _ (by omega) hM) kY_X0_allLines kV_X0_allLines (gC_club (by omega) hn) rfl rfl w1_182 rfl ⟨rfl, rfl⟩ ⟨(Nat.le_of_ble_eq_true rfl), (Nat.le_of_ble_eq_true rfl)⟩ rfl (Nat.le_of_ble_eq_true rfl) hl.1 ⟨Nat.zero_le _, Nat.zero_le _⟩ dX6_mean_4 rfl (fun H locs hG => ?_)
  refine lv_istore_n (lv' := [(1, .int (allF M 0 nm)), (0, .ref (AD 0))]) hx hb dX6_mean_7 rfl hl (by decide) rfl (fun ls hl => ?_)
  refine lv_iload_n hx hb dX6_mean_8 rfl (lv_at hl 0 rfl) ?_
  refine lv_if_le (tgt := 26) hx hb dX6_mean_9 (by decide) (fun h9 => ?_) (fun h9 => ?_)
  · refine lv_dconst0 hx hb dX6_mean_26 ?_
    exact gg_dret F hG (Eq.symm (if_pos h9)) rfl dX6_mean_27
  · refine lv_aload_n hx hb dX6_mean_12 rfl (lv_at hl 1 rfl) ?_
    refine gg_get F hG (ci := 6) (v := .ref (AD (1 + 0))) 0 gcX6 rfl (gC_root hn) (by decide) w1_168 rfl dX6_mean_13 ?_
    refine gg_callV F hG (ci := 0) (As := []) (rest := []) (c_X0_allStrengths Z l AD M _ hn 0 _ (by omega) hM hZ) kY_X0_allStrengths kV_X0_allStrengths (gC_club (by omega) hn) rfl rfl w1_190 rfl ⟨rfl, rfl⟩ ⟨(Nat.le_of_ble_eq_true rfl), (Nat.le_of_ble_eq_true rfl)⟩ rfl (Nat.le_of_ble_eq_true rfl) hl.1 ⟨Nat.zero_le _, Nat.zero_le _⟩ dX6_mean_16 rfl (fun H locs hG => ?_)
    refine lv_i2d hx hb dX6_mean_19 ?_
    refine lv_iload_n hx hb dX6_mean_20 rfl (lv_at hl 0 rfl) ?_
    refine lv_i2d hx hb dX6_mean_21 ?_
    refine lv_ddiv hx hb dX6_mean_22 (fp_ok (fun z => h9 (by rw [z]; decide))) ?_
    refine lv_goto (tgt := 27) hx hb dX6_mean_23 (by decide) ?_
    exact gg_dret F hG (Eq.symm (if_neg h9)) rfl dX6_mean_27
set_option maxRecDepth 100000 in
set_option maxHeartbeats 4000000 in
theorem c_X8_mean (Z : gZ) (l : Launch) (AD : Nat → Nat) (M : St) (n : Nat) (hn : 16 ≤ n) (ns nm : Nat) (hN : okN M ns nm) (hX : okX M 0 nm) : gM Z l yX8_mean cX8_mean 4 (some .double) ({ frames := 0, cells := 0, slots := 0, locals := 0 } : Room) [.ref (AD 0)] (wR Z AD M n) (some (.double (mnR (mu M 1 0 0 0) nm))) (wR Z AD (mu M 1 0 0 0) n) 0 0 := by
  refine gM_of (by decide +kernel) (Nat.le_of_ble_eq_true rfl) ?_
  intro pP eE sS mI aA bB mE cC A F hname hG ls hl
  have hx := F.1
  have hb := F.2.1
  have hl : lv_has ls 4 [(0, .ref (AD 0))] := hl
  have hns2 := hN.2.1
  have hnm2 := hN.2.2.2.1
  refine lv_aload_n hx hb dX8_mean_0 rfl (lv_at hl 0 rfl) ?_
  refine lv_iconst (v := 0) hx hb dX8_mean_1 (by decide) ?_
  refine gg_put F hG (ci := 8) 0 gcX8 rfl (gR_model hn) (by decide) w4_75 rfl rfl rfl (Nat.le_of_ble_eq_true rfl) (pR_1) dX8_mean_2 (fun H locs hG => ?_)
  have hG : gG Z A sS (wR Z AD (mu M 1 0 0 0) n) H locs := hG
  refine lv_iconst (v := 0) hx hb dX8_mean_5 (by decide) ?_
  refine lv_istore_n (lv' := [(1, .int 0), (0, .ref (AD 0))]) hx hb dX8_mean_6 rfl hl (by decide) rfl (fun ls hl => ?_)
  refine lv_iconst (v := nI 0) hx hb dX8_mean_7 rfl ?_
  refine lv_istore_n (lv' := [(2, .int (nI 0)), (1, .int 0), (0, .ref (AD 0))]) hx hb dX8_mean_8 rfl hl (by decide) rfl (fun ls hl => ?_)
  have loop9 : ∀ (fuQ i : Nat), i ≤ nm → nm + 1 ≤ i + fuQ → ∀ (H : Heap) (locs : List Loc), gG Z A sS (wR Z AD (mu M 1 0 0 0) n) H locs → ∀ ls : Array Slot, lv_has ls 4 [(0, .ref (AD 0)), (1, .int (msO (mu M 1 0 0 0) i)), (2, .int (nI i))] → W pP l eE ({ frames := 0, cells := 0, slots := 0, locals := 0 } : Room) sS mI aA bB mE cC H locs 0 0 (MQ bB (gQ Z A (some (.double (mnR (mu M 1 0 0 0) nm))) (wR Z AD (mu M 1 0 0 0) n)) aA sS 0 0 A) (F0 mI 9 ls []) := by
    intro fuQ
    induction fuQ with
    | zero =>
      intro i h1 h2
      exact absurd h2 (by omega)
    | succ fuQ ih9 =>
      intro i hleQ hfuQ H locs hG ls hl
      by_cases hlt : i < nm
      · refine lv_iload_n hx hb dX8_mean_9 rfl (lv_at hl 2 rfl) ?_
        refine lv_aload_n hx hb dX8_mean_10 rfl (lv_at hl 0 rfl) ?_
        refine gg_get F hG (ci := 8) (v := .int (nI nm)) 2 gcX8 rfl (gR_model hn) (by decide) w4_78 (congrArg (fun z => some (Value.int z)) hN.2.2.1) dX8_mean_11 ?_
        refine lv_icmp_ge (tgt := 65) hx hb dX8_mean_14 (by decide) (fun h14 => absurd h14 (nI_ge hlt (by omega))) (fun h14 => ?_)
        refine lv_iconst (v := nI 0) hx hb dX8_mean_17 rfl ?_
        refine lv_istore_n (lv' := [(3, .int (nI 0)), (0, .ref (AD 0)), (1, .int (msO (mu M 1 0 0 0) i)), (2, .int (nI i))]) hx hb dX8_mean_18 rfl hl (by decide) rfl (fun ls hl => ?_)
        have loop19 : ∀ (fuQ k : Nat), k ≤ (szR M 0 i) → (szR M 0 i) + 1 ≤ k + fuQ → ∀ (H : Heap) (locs : List Loc), gG Z A sS (wR Z AD (mu M 1 0 0 0) n) H locs → ∀ ls : Array Slot, lv_has ls 4 [(0, .ref (AD 0)), (1, .int (msI (mu M 1 0 0 0) i (msO (mu M 1 0 0 0) i) k)), (2, .int (nI i)), (3, .int (nI k))] → W pP l eE ({ frames := 0, cells := 0, slots := 0, locals := 0 } : Room) sS mI aA bB mE cC H locs 0 0 (MQ bB (gQ Z A (some (.double (mnR (mu M 1 0 0 0) nm))) (wR Z AD (mu M 1 0 0 0) n)) aA sS 0 0 A) (F0 mI 19 ls []) := by
          intro fuQ
          induction fuQ with
          | zero =>
            intro k h1 h2
            exact absurd h2 (by omega)
          | succ fuQ ih19 =>
            intro k hleQ hfuQ H locs hG ls hl
            by_cases hlt2 : k < (szR M 0 i)
            · have hXi2 := (hX i hlt).2
              refine lv_iload_n hx hb dX8_mean_19 rfl (lv_at hl 3 rfl) ?_
              refine lv_aload_n hx hb dX8_mean_20 rfl (lv_at hl 0 rfl) ?_
              refine gg_get F hG (ci := 8) (v := .ref (AD (6 + 0))) 8 gcX8 rfl (gR_model hn) (by decide) w4_87 rfl dX8_mean_21 ?_
              refine gg_getN F hG (ci := 7) (v := .ref (AD (10 + 0))) 5 gcX7 rfl (gR_state (by omega) hn) (by decide) wn_43 rfl dX8_mean_24 ?_
              refine lv_iload_n hx hb dX8_mean_27 rfl (lv_at hl 2 rfl) ?_
              refine gg_ialdN F hG i (gR_lines (by omega) hn) rfl (by omega) (by omega) dX8_mean_28 ?_
              rw [show (mu M 1 0 0 0) 13 0 i = nI (szR M 0 i) from (hX i hlt).1]
              refine lv_icmp_ge (tgt := 59) hx hb dX8_mean_29 (by decide) (fun h29 => absurd h29 (nI_ge hlt2 (by omega))) (fun h29 => ?_)
              refine lv_iload_n hx hb dX8_mean_32 rfl (lv_at hl 1 rfl) ?_
              refine lv_aload_n hx hb dX8_mean_33 rfl (lv_at hl 0 rfl) ?_
              refine gg_get F hG (ci := 8) (v := .ref (AD (6 + 0))) 8 gcX8 rfl (gR_model hn) (by decide) w4_87 rfl dX8_mean_34 ?_
              refine gg_getN F hG (ci := 7) (v := .ref (AD (12 + 0))) 6 gcX7 rfl (gR_state (by omega) hn) (by decide) wn_44 rfl dX8_mean_37 ?_
              refine lv_iconst (v := 4) hx hb dX8_mean_40 (by decide) ?_
              refine lv_bipush (v := 40) hx hb dX8_mean_41 (by decide) ?_
              refine lv_iload_n hx hb dX8_mean_43 rfl (lv_at hl 2 rfl) ?_
              refine lv_imul hx hb dX8_mean_44 ?_
              rw [show (40 * (nI i) : Int32) = nI (40 * i) from pk_mul 40 i]
              refine lv_iload_n hx hb dX8_mean_45 rfl (lv_at hl 3 rfl) ?_
              refine lv_iadd hx hb dX8_mean_46 ?_
              rw [show ((nI (40 * i)) + (nI k) : Int32) = nI (40 * i + k) from nI_add _ _]
              refine lv_imul hx hb dX8_mean_47 ?_
              rw [show (4 * (nI (40 * i + k)) : Int32) = nI (4 * (40 * i + k)) from pk_mul 4 _]
              refine lv_iconst (v := 2) hx hb dX8_mean_48 (by decide) ?_
              refine lv_iadd hx hb dX8_mean_49 ?_
              rw [show ((nI (4 * (40 * i + k))) + 2 : Int32) = nI (4 * (40 * i + k) + 2) from nI_add _ _]
              refine gg_ialdN F hG (4 * (40 * i + k) + 2) (gR_log (by omega) hn) rfl (by have := (hX i hlt).2; omega) (by omega) dX8_mean_50 ?_
              refine lv_iadd hx hb dX8_mean_51 ?_
              refine lv_istore_n (lv' := [(1, .int ((msI (mu M 1 0 0 0) i (msO (mu M 1 0 0 0) i) k) + ((mu M 1 0 0 0) 14 0 (4 * (40 * i + k) + 2)))), (0, .ref (AD 0)), (2, .int (nI i)), (3, .int (nI k))]) hx hb dX8_mean_52 rfl hl (by decide) rfl (fun ls hl => ?_)
              refine lv_iinc (v := nI (k + 1)) (lv' := [(3, .int (nI (k + 1))), (1, .int ((msI (mu M 1 0 0 0) i (msO (mu M 1 0 0 0) i) k) + ((mu M 1 0 0 0) 14 0 (4 * (40 * i + k) + 2)))), (0, .ref (AD 0)), (2, .int (nI i))]) hx hb dX8_mean_53 hl (k := 3) rfl (nI_1 _) (by decide) rfl (fun ls hl => ?_)
              refine lv_goto (tgt := 19) hx hb dX8_mean_56 (by decide) ?_
              exact ih19 (k + 1) (by omega) (by omega) _ _ hG ls (lv_sub hl [2, 1, 3, 0] rfl)
            · have hN : (szR M 0 i) = k := by omega
              subst hN
              have hXi2 := (hX i hlt).2
              refine lv_iload_n hx hb dX8_mean_19 rfl (lv_at hl 3 rfl) ?_
              refine lv_aload_n hx hb dX8_mean_20 rfl (lv_at hl 0 rfl) ?_
              refine gg_get F hG (ci := 8) (v := .ref (AD (6 + 0))) 8 gcX8 rfl (gR_model hn) (by decide) w4_87 rfl dX8_mean_21 ?_
              refine gg_getN F hG (ci := 7) (v := .ref (AD (10 + 0))) 5 gcX7 rfl (gR_state (by omega) hn) (by decide) wn_43 rfl dX8_mean_24 ?_
              refine lv_iload_n hx hb dX8_mean_27 rfl (lv_at hl 2 rfl) ?_
              refine gg_ialdN F hG i (gR_lines (by omega) hn) rfl (by omega) (by omega) dX8_mean_28 ?_
              rw [show (mu M 1 0 0 0) 13 0 i = nI (szR M 0 i) from (hX i hlt).1]
              refine lv_icmp_ge (tgt := 59) hx hb dX8_mean_29 (by decide) (fun h29 => ?_) (fun h29 => absurd (nI_le (Nat.le_refl _) (by omega)) h29)
              refine lv_iinc (v := nI (i + 1)) (lv' := [(2, .int (nI (i + 1))), (0, .ref (AD 0)), (1, .int (msI (mu M 1 0 0 0) i (msO (mu M 1 0 0 0) i) (szR M 0 i))), (3, .int (nI (szR M 0 i)))]) hx hb dX8_mean_59 hl (k := 2) rfl (nI_1 _) (by decide) rfl (fun ls hl => ?_)
              refine lv_goto (tgt := 9) hx hb dX8_mean_62 (by decide) ?_
              exact ih9 (i + 1) (by omega) (by omega) _ _ hG ls (lv_sub hl [1, 2, 0] rfl)
        exact loop19 ((szR M 0 i) + 1) 0 (Nat.zero_le _) (by omega) _ _ hG ls (lv_sub hl [1, 2, 3, 0] rfl)
      · have hN : nm = i := by omega
        subst hN
        refine lv_iload_n hx hb dX8_mean_9 rfl (lv_at hl 2 rfl) ?_
        refine lv_aload_n hx hb dX8_mean_10 rfl (lv_at hl 0 rfl) ?_
        refine gg_get F hG (ci := 8) (v := .int (nI nm)) 2 gcX8 rfl (gR_model hn) (by decide) w4_78 (congrArg (fun z => some (Value.int z)) hN.2.2.1) dX8_mean_11 ?_
        refine lv_icmp_ge (tgt := 65) hx hb dX8_mean_14 (by decide) (fun h14 => ?_) (fun h14 => absurd (nI_le (Nat.le_refl _) (by omega)) h14)
        refine lv_aload_n hx hb dX8_mean_65 rfl (lv_at hl 0 rfl) ?_
        refine gg_get F hG (ci := 8) (v := .ref (AD (6 + 0))) 8 gcX8 rfl (gR_model hn) (by decide) w4_87 rfl dX8_mean_66 ?_
        refine gg_getN F hG (ci := 7) (v := .int ((mu M 1 0 0 0) 10 0 0)) 2 gcX7 rfl (gR_state (by omega) hn) (by decide) wn_40 rfl dX8_mean_69 ?_
        refine lv_if_ne (tgt := 79) hx hb dX8_mean_72 (by decide) (fun h72 => ?_) (fun h72 => ?_)
        · refine lv_iload_n hx hb dX8_mean_79 rfl (lv_at hl 1 rfl) ?_
          refine lv_i2d hx hb dX8_mean_80 ?_
          refine lv_aload_n hx hb dX8_mean_81 rfl (lv_at hl 0 rfl) ?_
          refine gg_get F hG (ci := 8) (v := .ref (AD (6 + 0))) 8 gcX8 rfl (gR_model hn) (by decide) w4_87 rfl dX8_mean_82 ?_
          refine gg_getN F hG (ci := 7) (v := .int ((mu M 1 0 0 0) 10 0 0)) 2 gcX7 rfl (gR_state (by omega) hn) (by decide) wn_40 rfl dX8_mean_85 ?_
          refine lv_i2d hx hb dX8_mean_88 ?_
          refine lv_ddiv hx hb dX8_mean_89 (fp_ok (fun z => h72 z)) ?_
          exact gg_dret F hG (Eq.symm (if_neg h72)) rfl dX8_mean_90
        · refine lv_dconst0 hx hb dX8_mean_75 ?_
          refine lv_goto (tgt := 90) hx hb dX8_mean_76 (by decide) ?_
          exact gg_dret F hG (Eq.symm (if_pos h72)) rfl dX8_mean_90
  exact loop9 (nm + 1) 0 (Nat.zero_le _) (by omega) _ _ hG ls (lv_sub hl [2, 1, 0] rfl)
