section
-- ===== PART A: goes FIRST, ahead of the names: the tables' words, and 'selects' of the private methods out of them =====
/-- a private method of a class that the tables say can be made, by its rows of tables_1 -/
def lw_okq (q : MethodName × Nat) : Prop := (q.1.cls ≠ "java/lang/invoke/MethodHandle" ∧ q.1.cls ≠ "java/lang/invoke/VarHandle") ∧ Cond.instantiable q.1.cls q.2 ∈ tables_1 ∧ Cond.privateMethod q.1 ∈ tables_1 ∧ Cond.instanceMethod q.1 ∈ tables_1
theorem lw_p0 : lw_okq (⟨"CrystalClub$Club", "sumOfLogs", "(I)I"⟩, 7) := ⟨⟨by decide +kernel, by decide +kernel⟩, List.mem_of_getElem? (i := 28) (by decide +kernel), List.mem_of_getElem? (i := 195) (by decide +kernel), List.mem_of_getElem? (i := 196) (by decide +kernel)⟩
theorem lw_p1 : lw_okq (⟨"CrystalClub$Club", "stationsOnAir", "()I"⟩, 7) := ⟨⟨by decide +kernel, by decide +kernel⟩, List.mem_of_getElem? (i := 28) (by decide +kernel), List.mem_of_getElem? (i := 221) (by decide +kernel), List.mem_of_getElem? (i := 222) (by decide +kernel)⟩
theorem lw_p2 : lw_okq (⟨"CrystalClub$Club", "listeners", "()I"⟩, 7) := ⟨⟨by decide +kernel, by decide +kernel⟩, List.mem_of_getElem? (i := 28) (by decide +kernel), List.mem_of_getElem? (i := 233) (by decide +kernel), List.mem_of_getElem? (i := 234) (by decide +kernel)⟩
theorem lw_p3 : lw_okq (⟨"CrystalClub$Club", "membersWithCardOf", "(I)I"⟩, 7) := ⟨⟨by decide +kernel, by decide +kernel⟩, List.mem_of_getElem? (i := 28) (by decide +kernel), List.mem_of_getElem? (i := 250) (by decide +kernel), List.mem_of_getElem? (i := 251) (by decide +kernel)⟩
theorem lw_p4 : lw_okq (⟨"CrystalClub$Club", "withMember", "(JI)J"⟩, 7) := ⟨⟨by decide +kernel, by decide +kernel⟩, List.mem_of_getElem? (i := 28) (by decide +kernel), List.mem_of_getElem? (i := 259) (by decide +kernel), List.mem_of_getElem? (i := 260) (by decide +kernel)⟩
theorem lw_p5 : lw_okq (⟨"CrystalClub$Club", "scoreOf", "(LCrystalClub$Member;)I"⟩, 7) := ⟨⟨by decide +kernel, by decide +kernel⟩, List.mem_of_getElem? (i := 28) (by decide +kernel), List.mem_of_getElem? (i := 273) (by decide +kernel), List.mem_of_getElem? (i := 274) (by decide +kernel)⟩
theorem lw_p6 : lw_okq (⟨"java/lang/Throwable", "fillInStackTrace", "(I)Ljava/lang/Throwable;"⟩, 6) := ⟨⟨by decide +kernel, by decide +kernel⟩, List.mem_of_getElem? (i := 331) (by decide +kernel), List.mem_of_getElem? (i := 329) (by decide +kernel), List.mem_of_getElem? (i := 330) (by decide +kernel)⟩
theorem lw_p7 : lw_okq (⟨"CrystalClub", "setOf", "(I)LCrystalClub$CrystalSet;"⟩, 3) := ⟨⟨by decide +kernel, by decide +kernel⟩, List.mem_of_getElem? (i := 20) (by decide +kernel), List.mem_of_getElem? (i := 447) (by decide +kernel), List.mem_of_getElem? (i := 448) (by decide +kernel)⟩
theorem lw_p8 : lw_okq (⟨"CrystalClub", "memberOf", "(I)LCrystalClub$Member;"⟩, 3) := ⟨⟨by decide +kernel, by decide +kernel⟩, List.mem_of_getElem? (i := 20) (by decide +kernel), List.mem_of_getElem? (i := 451) (by decide +kernel), List.mem_of_getElem? (i := 452) (by decide +kernel)⟩
theorem lw_p9 : lw_okq (⟨"CrystalClub", "stationOf", "(I)LCrystalClub$Station;"⟩, 3) := ⟨⟨by decide +kernel, by decide +kernel⟩, List.mem_of_getElem? (i := 20) (by decide +kernel), List.mem_of_getElem? (i := 503) (by decide +kernel), List.mem_of_getElem? (i := 504) (by decide +kernel)⟩
theorem lw_p10 : lw_okq (⟨"CrystalClub", "logOf", "(II)LCrystalClub$Table;"⟩, 3) := ⟨⟨by decide +kernel, by decide +kernel⟩, List.mem_of_getElem? (i := 20) (by decide +kernel), List.mem_of_getElem? (i := 569) (by decide +kernel), List.mem_of_getElem? (i := 570) (by decide +kernel)⟩
theorem lw_p11 : lw_okq (⟨"CrystalClub$Club", "writeLines", "()I"⟩, 7) := ⟨⟨by decide +kernel, by decide +kernel⟩, List.mem_of_getElem? (i := 28) (by decide +kernel), List.mem_of_getElem? (i := 616) (by decide +kernel), List.mem_of_getElem? (i := 617) (by decide +kernel)⟩
theorem lw_p12 : lw_okq (⟨"CrystalClub$Club", "writeLine", "(LCrystalClub$Member;)Z"⟩, 7) := ⟨⟨by decide +kernel, by decide +kernel⟩, List.mem_of_getElem? (i := 28) (by decide +kernel), List.mem_of_getElem? (i := 621) (by decide +kernel), List.mem_of_getElem? (i := 622) (by decide +kernel)⟩
theorem lw_p13 : lw_okq (⟨"CrystalClub$Club", "wearCrystals", "()V"⟩, 7) := ⟨⟨by decide +kernel, by decide +kernel⟩, List.mem_of_getElem? (i := 28) (by decide +kernel), List.mem_of_getElem? (i := 636) (by decide +kernel), List.mem_of_getElem? (i := 637) (by decide +kernel)⟩
theorem lw_p14 : lw_okq (⟨"CrystalClub$Club", "answerLetters", "()V"⟩, 7) := ⟨⟨by decide +kernel, by decide +kernel⟩, List.mem_of_getElem? (i := 28) (by decide +kernel), List.mem_of_getElem? (i := 644) (by decide +kernel), List.mem_of_getElem? (i := 645) (by decide +kernel)⟩
theorem lw_p15 : lw_okq (⟨"CrystalClub$Club", "answer", "(II)V"⟩, 7) := ⟨⟨by decide +kernel, by decide +kernel⟩, List.mem_of_getElem? (i := 28) (by decide +kernel), List.mem_of_getElem? (i := 653) (by decide +kernel), List.mem_of_getElem? (i := 654) (by decide +kernel)⟩
def lw_privs_1 : List (MethodName × Nat) := [(⟨"CrystalClub$Club", "sumOfLogs", "(I)I"⟩, 7), (⟨"CrystalClub$Club", "stationsOnAir", "()I"⟩, 7), (⟨"CrystalClub$Club", "listeners", "()I"⟩, 7), (⟨"CrystalClub$Club", "membersWithCardOf", "(I)I"⟩, 7), (⟨"CrystalClub$Club", "withMember", "(JI)J"⟩, 7), (⟨"CrystalClub$Club", "scoreOf", "(LCrystalClub$Member;)I"⟩, 7), (⟨"java/lang/Throwable", "fillInStackTrace", "(I)Ljava/lang/Throwable;"⟩, 6), (⟨"CrystalClub", "setOf", "(I)LCrystalClub$CrystalSet;"⟩, 3), (⟨"CrystalClub", "memberOf", "(I)LCrystalClub$Member;"⟩, 3), (⟨"CrystalClub", "stationOf", "(I)LCrystalClub$Station;"⟩, 3), (⟨"CrystalClub", "logOf", "(II)LCrystalClub$Table;"⟩, 3), (⟨"CrystalClub$Club", "writeLines", "()I"⟩, 7), (⟨"CrystalClub$Club", "writeLine", "(LCrystalClub$Member;)Z"⟩, 7), (⟨"CrystalClub$Club", "wearCrystals", "()V"⟩, 7), (⟨"CrystalClub$Club", "answerLetters", "()V"⟩, 7), (⟨"CrystalClub$Club", "answer", "(II)V"⟩, 7)]
theorem lw_r1 : ∀ q ∈ lw_privs_1, lw_okq q := List.forall_mem_cons.mpr ⟨lw_p0, List.forall_mem_cons.mpr ⟨lw_p1, List.forall_mem_cons.mpr ⟨lw_p2, List.forall_mem_cons.mpr ⟨lw_p3, List.forall_mem_cons.mpr ⟨lw_p4, List.forall_mem_cons.mpr ⟨lw_p5, List.forall_mem_cons.mpr ⟨lw_p6, List.forall_mem_cons.mpr ⟨lw_p7, List.forall_mem_cons.mpr ⟨lw_p8, List.forall_mem_cons.mpr ⟨lw_p9, List.forall_mem_cons.mpr ⟨lw_p10, List.forall_mem_cons.mpr ⟨lw_p11, List.forall_mem_cons.mpr ⟨lw_p12, List.forall_mem_cons.mpr ⟨lw_p13, List.forall_mem_cons.mpr ⟨lw_p14, List.forall_mem_cons.mpr ⟨lw_p15, fun _ h => absurd h List.not_mem_nil⟩⟩⟩⟩⟩⟩⟩⟩⟩⟩⟩⟩⟩⟩⟩⟩
theorem lw_p16 : lw_okq (⟨"CrystalClub$Club", "leadersOf", "(I)I"⟩, 7) := ⟨⟨by decide +kernel, by decide +kernel⟩, List.mem_of_getElem? (i := 28) (by decide +kernel), List.mem_of_getElem? (i := 680) (by decide +kernel), List.mem_of_getElem? (i := 681) (by decide +kernel)⟩
theorem lw_p17 : lw_okq (⟨"CrystalClub$Club", "leads", "(II)Z"⟩, 7) := ⟨⟨by decide +kernel, by decide +kernel⟩, List.mem_of_getElem? (i := 28) (by decide +kernel), List.mem_of_getElem? (i := 684) (by decide +kernel), List.mem_of_getElem? (i := 685) (by decide +kernel)⟩
theorem lw_p18 : lw_okq (⟨"CrystalClubModel", "no", "(I)I"⟩, 10) := ⟨⟨by decide +kernel, by decide +kernel⟩, List.mem_of_getElem? (i := 748) (by decide +kernel), List.mem_of_getElem? (i := 842) (by decide +kernel), List.mem_of_getElem? (i := 843) (by decide +kernel)⟩
theorem lw_p19 : lw_okq (⟨"CrystalClubModel", "isMember", "(I)Z"⟩, 10) := ⟨⟨by decide +kernel, by decide +kernel⟩, List.mem_of_getElem? (i := 748) (by decide +kernel), List.mem_of_getElem? (i := 857) (by decide +kernel), List.mem_of_getElem? (i := 858) (by decide +kernel)⟩
theorem lw_p20 : lw_okq (⟨"CrystalClubModel", "isStation", "(I)Z"⟩, 10) := ⟨⟨by decide +kernel, by decide +kernel⟩, List.mem_of_getElem? (i := 748) (by decide +kernel), List.mem_of_getElem? (i := 877) (by decide +kernel), List.mem_of_getElem? (i := 878) (by decide +kernel)⟩
theorem lw_p21 : lw_okq (⟨"CrystalClubModel", "stationTold", "(II)I"⟩, 10) := ⟨⟨by decide +kernel, by decide +kernel⟩, List.mem_of_getElem? (i := 748) (by decide +kernel), List.mem_of_getElem? (i := 881) (by decide +kernel), List.mem_of_getElem? (i := 882) (by decide +kernel)⟩
theorem lw_p22 : lw_okq (⟨"CrystalClubModel", "onAir", "(I)I"⟩, 10) := ⟨⟨by decide +kernel, by decide +kernel⟩, List.mem_of_getElem? (i := 748) (by decide +kernel), List.mem_of_getElem? (i := 885) (by decide +kernel), List.mem_of_getElem? (i := 886) (by decide +kernel)⟩
theorem lw_p23 : lw_okq (⟨"CrystalClubModel", "fading", "(II)I"⟩, 10) := ⟨⟨by decide +kernel, by decide +kernel⟩, List.mem_of_getElem? (i := 748) (by decide +kernel), List.mem_of_getElem? (i := 889) (by decide +kernel), List.mem_of_getElem? (i := 890) (by decide +kernel)⟩
theorem lw_p24 : lw_okq (⟨"CrystalClubModel", "cards", "(I)I"⟩, 10) := ⟨⟨by decide +kernel, by decide +kernel⟩, List.mem_of_getElem? (i := 748) (by decide +kernel), List.mem_of_getElem? (i := 896) (by decide +kernel), List.mem_of_getElem? (i := 897) (by decide +kernel)⟩
theorem lw_p25 : lw_okq (⟨"CrystalClubModel", "memberTold", "(II)I"⟩, 10) := ⟨⟨by decide +kernel, by decide +kernel⟩, List.mem_of_getElem? (i := 748) (by decide +kernel), List.mem_of_getElem? (i := 908) (by decide +kernel), List.mem_of_getElem? (i := 909) (by decide +kernel)⟩
theorem lw_p26 : lw_okq (⟨"CrystalClubModel", "held", "(IZ)I"⟩, 10) := ⟨⟨by decide +kernel, by decide +kernel⟩, List.mem_of_getElem? (i := 748) (by decide +kernel), List.mem_of_getElem? (i := 920) (by decide +kernel), List.mem_of_getElem? (i := 921) (by decide +kernel)⟩
theorem lw_p27 : lw_okq (⟨"CrystalClubModel", "reach", "(IIIIII)I"⟩, 10) := ⟨⟨by decide +kernel, by decide +kernel⟩, List.mem_of_getElem? (i := 748) (by decide +kernel), List.mem_of_getElem? (i := 928) (by decide +kernel), List.mem_of_getElem? (i := 929) (by decide +kernel)⟩
theorem lw_p28 : lw_okq (⟨"CrystalClubModel", "heard", "(IIIIII)I"⟩, 10) := ⟨⟨by decide +kernel, by decide +kernel⟩, List.mem_of_getElem? (i := 748) (by decide +kernel), List.mem_of_getElem? (i := 936) (by decide +kernel), List.mem_of_getElem? (i := 937) (by decide +kernel)⟩
theorem lw_p29 : lw_okq (⟨"CrystalClubModel", "isLine", "(II)Z"⟩, 10) := ⟨⟨by decide +kernel, by decide +kernel⟩, List.mem_of_getElem? (i := 748) (by decide +kernel), List.mem_of_getElem? (i := 944) (by decide +kernel), List.mem_of_getElem? (i := 945) (by decide +kernel)⟩
theorem lw_p30 : lw_okq (⟨"CrystalClubModel$State", "hear", "()V"⟩, 9) := ⟨⟨by decide +kernel, by decide +kernel⟩, List.mem_of_getElem? (i := 754) (by decide +kernel), List.mem_of_getElem? (i := 960) (by decide +kernel), List.mem_of_getElem? (i := 961) (by decide +kernel)⟩
theorem lw_p31 : lw_okq (⟨"CrystalClubModel$State", "isInDay", "(II)Z"⟩, 9) := ⟨⟨by decide +kernel, by decide +kernel⟩, List.mem_of_getElem? (i := 754) (by decide +kernel), List.mem_of_getElem? (i := 966) (by decide +kernel), List.mem_of_getElem? (i := 967) (by decide +kernel)⟩
def lw_privs_2 : List (MethodName × Nat) := [(⟨"CrystalClub$Club", "leadersOf", "(I)I"⟩, 7), (⟨"CrystalClub$Club", "leads", "(II)Z"⟩, 7), (⟨"CrystalClubModel", "no", "(I)I"⟩, 10), (⟨"CrystalClubModel", "isMember", "(I)Z"⟩, 10), (⟨"CrystalClubModel", "isStation", "(I)Z"⟩, 10), (⟨"CrystalClubModel", "stationTold", "(II)I"⟩, 10), (⟨"CrystalClubModel", "onAir", "(I)I"⟩, 10), (⟨"CrystalClubModel", "fading", "(II)I"⟩, 10), (⟨"CrystalClubModel", "cards", "(I)I"⟩, 10), (⟨"CrystalClubModel", "memberTold", "(II)I"⟩, 10), (⟨"CrystalClubModel", "held", "(IZ)I"⟩, 10), (⟨"CrystalClubModel", "reach", "(IIIIII)I"⟩, 10), (⟨"CrystalClubModel", "heard", "(IIIIII)I"⟩, 10), (⟨"CrystalClubModel", "isLine", "(II)Z"⟩, 10), (⟨"CrystalClubModel$State", "hear", "()V"⟩, 9), (⟨"CrystalClubModel$State", "isInDay", "(II)Z"⟩, 9)]
theorem lw_r2 : ∀ q ∈ lw_privs_2, lw_okq q := List.forall_mem_cons.mpr ⟨lw_p16, List.forall_mem_cons.mpr ⟨lw_p17, List.forall_mem_cons.mpr ⟨lw_p18, List.forall_mem_cons.mpr ⟨lw_p19, List.forall_mem_cons.mpr ⟨lw_p20, List.forall_mem_cons.mpr ⟨lw_p21, List.forall_mem_cons.mpr ⟨lw_p22, List.forall_mem_cons.mpr ⟨lw_p23, List.forall_mem_cons.mpr ⟨lw_p24, List.forall_mem_cons.mpr ⟨lw_p25, List.forall_mem_cons.mpr ⟨lw_p26, List.forall_mem_cons.mpr ⟨lw_p27, List.forall_mem_cons.mpr ⟨lw_p28, List.forall_mem_cons.mpr ⟨lw_p29, List.forall_mem_cons.mpr ⟨lw_p30, List.forall_mem_cons.mpr ⟨lw_p31, fun _ h => absurd h List.not_mem_nil⟩⟩⟩⟩⟩⟩⟩⟩⟩⟩⟩⟩⟩⟩⟩⟩
theorem lw_p32 : lw_okq (⟨"CrystalClubModel$State", "answer", "()V"⟩, 9) := ⟨⟨by decide +kernel, by decide +kernel⟩, List.mem_of_getElem? (i := 754) (by decide +kernel), List.mem_of_getElem? (i := 972) (by decide +kernel), List.mem_of_getElem? (i := 973) (by decide +kernel)⟩
theorem lw_p33 : lw_okq (⟨"CrystalClubModel", "counted", "(I)I"⟩, 10) := ⟨⟨by decide +kernel, by decide +kernel⟩, List.mem_of_getElem? (i := 748) (by decide +kernel), List.mem_of_getElem? (i := 980) (by decide +kernel), List.mem_of_getElem? (i := 981) (by decide +kernel)⟩
theorem lw_p34 : lw_okq (⟨"CrystalClubModel", "leads", "(II)Z"⟩, 10) := ⟨⟨by decide +kernel, by decide +kernel⟩, List.mem_of_getElem? (i := 748) (by decide +kernel), List.mem_of_getElem? (i := 989) (by decide +kernel), List.mem_of_getElem? (i := 990) (by decide +kernel)⟩
theorem lw_p35 : lw_okq (⟨"CrystalClubModel$State", "copy", "([I[I)V"⟩, 9) := ⟨⟨by decide +kernel, by decide +kernel⟩, List.mem_of_getElem? (i := 754) (by decide +kernel), List.mem_of_getElem? (i := 1013) (by decide +kernel), List.mem_of_getElem? (i := 1014) (by decide +kernel)⟩
def lw_privs_3 : List (MethodName × Nat) := [(⟨"CrystalClubModel$State", "answer", "()V"⟩, 9), (⟨"CrystalClubModel", "counted", "(I)I"⟩, 10), (⟨"CrystalClubModel", "leads", "(II)Z"⟩, 10), (⟨"CrystalClubModel$State", "copy", "([I[I)V"⟩, 9)]
theorem lw_r3 : ∀ q ∈ lw_privs_3, lw_okq q := List.forall_mem_cons.mpr ⟨lw_p32, List.forall_mem_cons.mpr ⟨lw_p33, List.forall_mem_cons.mpr ⟨lw_p34, List.forall_mem_cons.mpr ⟨lw_p35, fun _ h => absurd h List.not_mem_nil⟩⟩⟩⟩
def lw_privs : List (MethodName × Nat) := lw_privs_1 ++ (lw_privs_2 ++ (lw_privs_3))
def lw_tbl : List Cond := k2_sels lw_privs ++ tables_1
theorem lw_privs_ok : ∀ q ∈ lw_privs, lw_okq q := by
  show ∀ q ∈ lw_privs_1 ++ (lw_privs_2 ++ (lw_privs_3)), lw_okq q
  exact List.forall_mem_append.mpr ⟨lw_r1, List.forall_mem_append.mpr ⟨lw_r2, lw_r3⟩⟩
/-- the streams that the claim lets the run draw from -/
abbrev lw_cs : List Choice := [Jvm.Choice.named "NaN.bits"]
theorem lw_bits : nanBits ∈ lw_cs := by first | decide | exact List.mem_cons_self | simp [lw_cs, nanBits]
end
section
/-! ===== BEGIN words of one list among another's, by their places ===== -/
theorem goodIn_r {big : List Cond} (ws : List Cond) (ps : List Nat) (hp : ws = ps.filterMap (fun i => big[i]?)) (h : ws.all goodWord = true) : GoodIn big ws := by
  intro w hw
  have h1 := List.all_eq_true.mp h w hw
  rw [hp] at hw
  obtain ⟨i, -, hi⟩ := List.mem_filterMap.mp hw
  have hm : w ∈ big := by first | exact List.mem_of_getElem? hi | exact List.getElem?_mem hi
  exact ⟨hm, good_of_word h1⟩
theorem goodIn_app {big a b : List Cond} (ha : GoodIn big a) (hb : GoodIn big b) : GoodIn big (a ++ b) := fun w h => (List.mem_append.mp h).elim (ha w) (hb w)
theorem goodIn_ca {big a b : List Cond} {c : Cond} (ha : GoodIn big (c :: a)) (hb : GoodIn big b) : GoodIn big (c :: (a ++ b)) := fun w h => (List.mem_cons.mp h).elim (fun e => ha w (List.mem_cons.mpr (Or.inl e))) (fun h => (List.mem_append.mp h).elim (fun h => ha w (List.mem_cons.mpr (Or.inr h))) (hb w))
theorem goodIn_sub {big ws : List Cond} (hm : ∀ w ∈ ws, w ∈ big) (h : ws.all goodWord = true) : GoodIn big ws := fun w hw => ⟨hm w hw, good_of_word (List.all_eq_true.mp h w hw)⟩
/-! ===== END ===== -/

/-! ===== BEGIN exceptions that leave a method, and their catching by the caller (launches without stack traces) ===== -/
section VXA
/-! The laws vx_back, vx_callV, vx_callS, vx_callSW, vx_throw0, vx_throwS follow proofs of the library, with one case more: JvmDerived/Free/Laws.lean (Back.of_free), Shelf42/LK1.lean (callV, callS), Shelf/KitTraced.lean (throwNew0V, throwNewS). -/
/-- where a method has thrown q: the class by its name, the cell, what was written, the world -/
def vx_T (XC : String → State → State → Prop) (st : State) (q : Addr) (t : State) (mc ms : Nat) (free : Addr → Prop) : Prop :=
  ∃ (E : String) (ce : Cell) (L : List Loc), XC E st t ∧ t.heap[q]? = some ce ∧ ce.vm = .none ∧ st.vm.findClass E = some ce.cls ∧ st.WarmedH t.vm ∧ st.sameButNew ({ t with vm := st.vm } : State) L mc ms ∧ ∀ z ∈ L, free z.base
def vx_Q (Qc : Array Value → State → Outcome → State → Prop) (XC : String → State → State → Prop) (mc ms : Nat) (free : Addr → Prop) : Array Value → State → Outcome → State → Prop := fun a st o t =>
  (Qc a st o t ∧ ∃ L, FrameEnd st o t L mc ms ∧ ∀ q ∈ L, free q.base) ∨ ∃ q, o = .threw q ∧ vx_T XC st q t mc ms free
/-- a callee that returns or throws -/
def vx_Met (l : Launch) (y : MethodName) (ws : List Cond) (rm : Room) (Pc : Array Value → State → Prop) (Qc : Array Value → State → Outcome → State → Prop) (XC : String → State → State → Prop) (mc ms : Nat) (free : Addr → Prop) : Prop :=
  MetFree l y (headSpec ws rm) Pc (fun _ _ _ _ _ => True) (vx_Q Qc XC mc ms free)
def vx_Post (XC : String → State → State → Prop) (mc ms : Nat) (free : Addr → Prop) : Pt → Array Value → Addr → Pt → Prop := fun A a q B =>
  ∃ (g : JFrame) (mk : MethodId) (t : State) (L : List Loc) (E : String) (ce : Cell), B.U.heap = t.heap ∧ B.U.vm = t.vm ∧ XC E (A.U.calling g mk a) t ∧ t.heap[q]? = some ce ∧ ce.vm = .none ∧ A.U.vm.findClass E = some ce.cls ∧ B.locs = A.locs ++ L ∧ (∀ z ∈ L, free z.base) ∧ B.cells = A.cells + mc ∧ B.slots = A.slots + ms
def vx_Back (l : Launch) (R : Room) (p : Program) (e : Env) (below : List Frame) (s : State) (sargs : Array Value) (y : MethodName) (len W9 : Nat)
    (Pre : Pt → Array Value → Prop) (Post : Pt → Array Value → Option Value → Pt → Prop) (PostX : Pt → Array Value → Addr → Pt → Prop) : Prop :=
  ∀ (m : MethodId) (meth : Method) (c : Code) (A : Pt) (g : JFrame) (ig : Instr) (mk : MethodId) (a : Array Value),
    Stand p l e R s m sargs below meth c A.U A.locs A.cells A.slots → g.method = m → g.locals.size = c.maxLocals → decode c.code g.pc = .ok (ig, len) →
    2 * g.monitorRoom + (g.stack.map fun v => v.category).sum ≤ W9 → A.U.methodNamed? y = some mk → Pre A a →
    (∃ (v : Option Value) (B : Pt), Stand p l e R s m sargs below meth c B.U B.locs B.cells B.slots ∧ Post A a v B ∧
      Steps p.tables e below (doInvoke e (A.U.setTop g) [] mk a).1 (B.U.setTop { g with pc := g.pc + len, stack := v.toList ++ g.stack })) ∨
    (∃ (q : Addr) (B : Pt), Stand p l e R s m sargs below meth c B.U B.locs B.cells B.slots ∧ PostX A a q B ∧
      Steps p.tables e below (doInvoke e (A.U.setTop g) [] mk a).1 ((B.U.setTop g).pushFrame (.throwing q)))
section Payer
variable {l : Launch} {R : Room} {p : Program} {e : Env} {below : List Frame} {s : State} {sargs : Array Value} {y : MethodName} {len W9 : Nat}
theorem vx_back {ws : List Cond} {rm : Room} {Pc : Array Value → State → Prop} {Qc : Array Value → State → Outcome → State → Prop} {XC : String → State → State → Prop} {mc ms : Nat} {free : Addr → Prop} {bytes : ByteArray} {maxL : Nat} {ret : Option FieldType}
    (hM : vx_Met l y ws rm Pc Qc XC mc ms free) (hblind : FrameBlind Pc) (hrc : rm.cells = mc) (hrs : rm.slots = ms)
    (hframes : rm.frames + 1 ≤ R.frames) (hlocals : W9 + (maxL + 11) + rm.locals ≤ R.locals)
    (hws : ∀ w ∈ ws, ∀ a' U, s.WarmedH U.vm → w.before a' U = true) (hcode : Cond.code y bytes maxL ret ∈ ws) (hinit : ∀ a' U, s.WarmedH U.vm → (Cond.initialized y.cls).before a' U = true) :
    vx_Back l R p e below s sargs y len W9 (PreOf R mc ms Pc) (PostOf Qc mc ms free) (vx_Post XC mc ms free) := by
  intro m meth c A g ig mk a X hg hsize hdg hW hn hp
  have h1 : (headSpec ws rm).pre.before a A.U = true := atoms_intro fun w hw => hws w hw _ _ X.warmed
  have h2 : (Cond.code y bytes maxL ret).before a A.U = true := hws _ hcode _ _ X.warmed
  have h3 : (Cond.initialized y.cls).before a A.U = true := hinit _ _ X.warmed
  have h4 : A.cells + (headSpec ws rm).room.cells ≤ R.cells := by rw [show (headSpec ws rm).room.cells = mc from hrc]; exact hp.1
  have h5 : A.slots + (headSpec ws rm).room.slots ≤ R.slots := by rw [show (headSpec ws rm).room.slots = ms from hrs]; exact hp.2.1
  have hPc : Pc a (A.U.calling g mk a) := hblind _ _ _ _ hp.2.2
  obtain ⟨U, Ls, c0, s0⟩ := A
  dsimp only [Pt.U, Pt.locs, Pt.cells, Pt.slots] at h1 h2 h3 h4 h5 X hn hPc ⊢
  obtain ⟨methY, cY, hmY, hcY, -, hlY, -, -, -, -⟩ := Cond.code_spec hn h2
  obtain ⟨kY, hkY, -⟩ := className_of_methodNamed hn
  have hinitY : kY.init = .initialized := Cond.initialized_spec (findClass_of_methodNamed hn) hkY h3
  have h : At U g.method c below := by rw [hg]; exact X.here
  have hlocals9 : W9 + (maxL + 11) + (headSpec ws rm).room.locals ≤ R.locals := hlocals
  have happ : (headSpec ws rm).appliesLoose y e.platform (U.calling g mk a) = true :=
    Spec.appliesLoose_calling (g := g) h hdg hn hkY hinitY
      (X.room_calling (g := g) (R' := (headSpec ws rm).room) hsize hmY hcY hframes (by rw [hlY]; omega) h4 h5) h1
  obtain ⟨mid, hmid⟩ := h.above
  have hfr : (U.setTop g).frames = (.java g :: mid) ++ below := by rw [State.frames_setTop' g h.top, hmid]; rfl
  obtain ⟨o, s₂, hsteps, -, hend, hq⟩ := Steps.callFree hM p X.admits X.cas X.clock (acts := []) hfr happ hPc trivial
  have hq' : vx_Q Qc XC mc ms free a (U.calling g mk a) o s₂ := hq
  rw [State.frames_setTop' g h.top] at hend
  obtain ⟨g₀, hg0⟩ := Option.isSome_iff_exists.mp h.top
  obtain ⟨r, hr⟩ := State.topJava?_eq_some.mp hg0
  have hr' : (({ U with heap := s₂.heap, slotsUsed := s₂.slotsUsed } : State).setVm s₂.vm).frames = .java g₀ :: r := hr
  rcases hq' with ⟨hqc, L, hfe, hL⟩ | ⟨q, rfl, E, ce, L, hx, hce, hcv, hcl, hW₂, hsm, hL⟩
  · obtain ⟨⟨v, rfl⟩, hW₂, e2, q2, q3, q4, q5, q6⟩ := id hfe
    have e3 : s₂ = ({ (U.calling g mk a).setFrames s₂.frames with heap := s₂.heap, slotsUsed := s₂.slotsUsed } : State).setVm s₂.vm := by
      have : s₂ = ({ s₂ with vm := (U.calling g mk a).vm } : State).setVm s₂.vm := rfl
      rw [e2] at this
      exact this
    obtain ⟨c₂, i₂, len₂, hc₂, hd₂, hf₂⟩ := hend
    have hW' : U.WarmedH s₂.vm := hW₂
    have hcc : c₂ = c := by
      have h1 : s₂.code? g.method = U.code? g.method := by
        rw [State.code?_eq, State.code?_eq, hW'.alike.method?]
      exact Option.some.inj (hc₂.symm.trans (h1.trans h.code))
    subst hcc
    have hlen : len₂ = len := by rw [hdg] at hd₂; cases hd₂; rfl
    subst hlen
    have hs₂ : s₂ = (({ U with heap := s₂.heap, slotsUsed := s₂.slotsUsed } : State).setVm s₂.vm).setTop { g with pc := g.pc + len₂, stack := v.toList ++ g.stack } := by
      refine e3.trans ?_
      rw [hf₂, State.calling_eq h.top, State.setFrames_setFrames, State.setTop_of_frames _ hr', hr]
      rfl
    have hsame : U.sameButNew ({ U with heap := s₂.heap, slotsUsed := s₂.slotsUsed } : State) L mc ms := by
      refine ⟨?_, q2, q3, q4, q5, q6⟩
      obtain ⟨t, ht, -⟩ := State.frames_cons hr
      show ({ U with heap := s₂.heap, slotsUsed := s₂.slotsUsed } : State) = { U.setFrames U.frames with heap := s₂.heap, slotsUsed := s₂.slotsUsed }
      rw [State.setFrames_self ht]
    subst hg
    refine Or.inl ⟨v, ⟨(({ U with heap := s₂.heap, slotsUsed := s₂.slotsUsed } : State).setVm s₂.vm), Ls ++ L, c0 + mc, s0 + ms⟩,
      ⟨X.admits, X.cas, X.clock, X.frames, X.room, X.hears, X.method, X.code, (X.here.setHeapUsed s₂.heap s₂.slotsUsed).setVm hW'.alike, X.tail, State.WarmedH.trans X.warmed hW', X.limits, X.bytes, X.same.trans (hsame.setVm s.vm)⟩,
      ⟨g, mk, s₂, L, rfl, rfl, hqc, rfl, hL, rfl, rfl⟩, ?_⟩
    show Steps p.tables e below _ ((({ U with heap := s₂.heap, slotsUsed := s₂.slotsUsed } : State).setVm s₂.vm).setTop { g with pc := g.pc + len₂, stack := v.toList ++ g.stack })
    rw [← hs₂]
    exact hsteps
  · obtain ⟨e2, q2, q3, q4, q5, q6⟩ := id hsm
    have e3 : s₂ = ({ (U.calling g mk a).setFrames s₂.frames with heap := s₂.heap, slotsUsed := s₂.slotsUsed } : State).setVm s₂.vm := by
      have : s₂ = ({ s₂ with vm := (U.calling g mk a).vm } : State).setVm s₂.vm := rfl
      rw [e2] at this
      exact this
    have hf₂ : s₂.frames = .throwing q :: .java g :: U.frames.tail := hend
    have hW' : U.WarmedH s₂.vm := hW₂
    have hs₂ : s₂ = ((({ U with heap := s₂.heap, slotsUsed := s₂.slotsUsed } : State).setVm s₂.vm).setTop g).pushFrame (.throwing q) := by
      refine e3.trans ?_
      rw [hf₂, State.calling_eq h.top, State.setFrames_setFrames, State.pushFrame, State.frames_setTop _ hr', State.setTop_of_frames _ hr', State.setFrames_setFrames, hr]
      rfl
    have hsame : U.sameButNew ({ U with heap := s₂.heap, slotsUsed := s₂.slotsUsed } : State) L mc ms := by
      refine ⟨?_, q2, q3, q4, q5, q6⟩
      obtain ⟨t, ht, -⟩ := State.frames_cons hr
      show ({ U with heap := s₂.heap, slotsUsed := s₂.slotsUsed } : State) = { U.setFrames U.frames with heap := s₂.heap, slotsUsed := s₂.slotsUsed }
      rw [State.setFrames_self ht]
    subst hg
    refine Or.inr ⟨q, ⟨(({ U with heap := s₂.heap, slotsUsed := s₂.slotsUsed } : State).setVm s₂.vm), Ls ++ L, c0 + mc, s0 + ms⟩,
      ⟨X.admits, X.cas, X.clock, X.frames, X.room, X.hears, X.method, X.code, (X.here.setHeapUsed s₂.heap s₂.slotsUsed).setVm hW'.alike, X.tail, State.WarmedH.trans X.warmed hW', X.limits, X.bytes, X.same.trans (hsame.setVm s.vm)⟩,
      ⟨g, mk, s₂, L, E, ce, rfl, rfl, hx, hce, hcv, hcl, rfl, hL, rfl, rfl⟩, ?_⟩
    show Steps p.tables e below _ (((({ U with heap := s₂.heap, slotsUsed := s₂.slotsUsed } : State).setVm s₂.vm).setTop g).pushFrame (.throwing q))
    rw [← hs₂]
    exact hsteps
end Payer
section Calls
variable {p : Program} {l : Launch} {e : Env} {R : Room} {s : State} {m : MethodId} {args : Array Value} {below : List Frame} {meth : Method} {c : Code} {T : State} {locs : List Loc} {cells slots : Nat}
theorem vx_callV (X : Stand p l e R s m args below meth c T locs cells slots) (hexec : p.tables.exec = Jvm.exec) {own C : String} {index : Nat} {y : MethodName} {bytes : ByteArray} {maxL : Nat} {ret : Option FieldType}
    (hown : s.vm.findClass own = some m.cls) (hlink : (Cond.methodLink own index y).before args s = true) (hinst : (Cond.instanceMethod y).before args s = true) (hsel : (Cond.selects C y y).before args s = true)
    (hcode : (Cond.code y bytes maxL ret).before args s = true) (hy : y.cls ≠ "java/lang/invoke/MethodHandle" ∧ y.cls ≠ "java/lang/invoke/VarHandle")
    {W9 : Nat} {Pre : Pt → Array Value → Prop} {Post : Pt → Array Value → Option Value → Pt → Prop} {PostX : Pt → Array Value → Addr → Pt → Prop} (hK : vx_Back l R p e below s args y 3 W9 Pre Post PostX)
    {b : Addr} {cellB : Cell} (hcell : T.heap[b]? = some cellB) (hobj : cellB.vm.isStatics = false) (hcls : s.vm.findClass C = some cellB.cls)
    {g : JFrame} (hg : g.method = m) (hsize : g.locals.size = c.maxLocals) {argsL rest : List Value} (hlen : ∀ sig, parseMethodDescriptor y.desc = some sig → argsL.length = sig.parameters.length)
    (hstack : g.stack = argsL.reverse ++ .ref b :: rest) (hW : 2 * g.monitorRoom + (rest.map fun v => v.category).sum ≤ W9) (hdg : decode c.code g.pc = .ok (.invokevirtual index, 3))
    (hpre : ∀ vm₁, s.WarmedH vm₁ → Pre ⟨T.setVm vm₁, locs, cells, slots⟩ (Value.ref b :: argsL).toArray) :
    (∃ (v : Option Value) (vm₁ : Vm) (B : Pt), s.WarmedH vm₁ ∧ Stand p l e R s m args below meth c B.U B.locs B.cells B.slots ∧ Post ⟨T.setVm vm₁, locs, cells, slots⟩ (Value.ref b :: argsL).toArray v B ∧
      ∀ target, Steps p.tables e below (B.U.setTop { g with pc := g.pc + 3, stack := v.toList ++ rest }) target → Steps p.tables e below (T.setTop g) target) ∨
    (∃ (q : Addr) (vm₁ : Vm) (B : Pt), s.WarmedH vm₁ ∧ Stand p l e R s m args below meth c B.U B.locs B.cells B.slots ∧ PostX ⟨T.setVm vm₁, locs, cells, slots⟩ (Value.ref b :: argsL).toArray q B ∧
      Steps p.tables e below (T.setTop g) ((B.U.setTop { g with stack := rest }).pushFrame (.throwing q))) := by
  obtain ⟨mk, methM, hnamed, hmethM, hstM, habM⟩ := Cond.instanceMethod_spec hinst
  obtain ⟨methM', cM, hmethM', -, -, -, -, -, -, hsigM⟩ := Cond.code_spec hnamed hcode
  cases hmethM.symm.trans hmethM'
  obtain ⟨c2, r2, m2, q1, q2, q3, q4, kP, hkP, hkPi⟩ := Cond.selects_spec hsel
  cases hcls.symm.trans q1
  cases (State.methodFound?_of_named hnamed hy).symm.trans q2
  cases hnamed.symm.trans q3
  have hselP : selectMethod e.platform s.vm cellB.cls mk = .method mk := by rw [Launch.admits_selectMethod X.admits]; exact q4
  obtain ⟨vm₁, X₁, hstep₁⟩ := X.invokevirtual hexec hown hlink hnamed hmethM hstM hkP hkPi hy (a := b) (cell := cellB) hcell
    (fun z h => by rw [h] at hobj; cases hobj) hselP hmethM habM hkP hkPi (g := g) hg (argsL := argsL) (rest := rest) (hlen _ hsigM) hstack hdg
  rcases hK m meth c ⟨T.setVm vm₁, locs, cells, slots⟩ { g with stack := rest } (.invokevirtual index) mk (Value.ref b :: argsL).toArray X₁ hg hsize hdg hW (X₁.named hnamed) (hpre vm₁ X₁.warmed) with ⟨v, B, X', hpost, hsteps⟩ | ⟨q, B, X', hpost, hsteps⟩
  · exact Or.inl ⟨v, vm₁, B, X₁.warmed, X', hpost, fun target h => hstep₁ _ fun acts => by rw [doInvoke_state]; exact hsteps.trans h⟩
  · exact Or.inr ⟨q, vm₁, B, X₁.warmed, X', hpost, hstep₁ _ fun acts => by rw [doInvoke_state]; exact hsteps⟩
theorem vx_callS (X : Stand p l e R s m args below meth c T locs cells slots) (hexec : p.tables.exec = Jvm.exec) {own : String} {index : Nat} {y : MethodName} {bytes : ByteArray} {maxL : Nat} {ret : Option FieldType}
    (hown : s.vm.findClass own = some m.cls) (hlink : (Cond.methodLink own index y).before args s = true) (hstat : (Cond.static y).before args s = true) (hinit : (Cond.initialized y.cls).before args s = true)
    (hcode : (Cond.code y bytes maxL ret).before args s = true) (hy : y.cls ≠ "java/lang/invoke/MethodHandle" ∧ y.cls ≠ "java/lang/invoke/VarHandle")
    {W9 : Nat} {Pre : Pt → Array Value → Prop} {Post : Pt → Array Value → Option Value → Pt → Prop} {PostX : Pt → Array Value → Addr → Pt → Prop} (hK : vx_Back l R p e below s args y 3 W9 Pre Post PostX)
    {g : JFrame} (hg : g.method = m) (hsize : g.locals.size = c.maxLocals) {argsL rest : List Value} (hlen : ∀ sig, parseMethodDescriptor y.desc = some sig → argsL.length = sig.parameters.length)
    (hstack : g.stack = argsL.reverse ++ rest) (hW : 2 * g.monitorRoom + (rest.map fun v => v.category).sum ≤ W9) (hdg : decode c.code g.pc = .ok (.invokestatic index, 3))
    (hpre : ∀ vm₁, s.WarmedH vm₁ → Pre ⟨T.setVm vm₁, locs, cells, slots⟩ argsL.toArray) :
    (∃ (v : Option Value) (vm₁ : Vm) (B : Pt), s.WarmedH vm₁ ∧ Stand p l e R s m args below meth c B.U B.locs B.cells B.slots ∧ Post ⟨T.setVm vm₁, locs, cells, slots⟩ argsL.toArray v B ∧
      ∀ target, Steps p.tables e below (B.U.setTop { g with pc := g.pc + 3, stack := v.toList ++ rest }) target → Steps p.tables e below (T.setTop g) target) ∨
    (∃ (q : Addr) (vm₁ : Vm) (B : Pt), s.WarmedH vm₁ ∧ Stand p l e R s m args below meth c B.U B.locs B.cells B.slots ∧ PostX ⟨T.setVm vm₁, locs, cells, slots⟩ argsL.toArray q B ∧
      Steps p.tables e below (T.setTop g) ((B.U.setTop { g with stack := rest }).pushFrame (.throwing q))) := by
  obtain ⟨mk, hnamed⟩ := Cond.code_named hcode
  obtain ⟨methM, cM, hmethM, -, -, -, -, -, -, hsigM⟩ := Cond.code_spec hnamed hcode
  have hstatic : methM.isStatic = true := Cond.static_spec hnamed hmethM hstat
  obtain ⟨kP, hkP, -⟩ := className_of_methodNamed hnamed
  have hinitP : kP.init = .initialized := Cond.initialized_spec (findClass_of_methodNamed hnamed) hkP hinit
  obtain ⟨vm₁, X₁, hstep₁⟩ := X.invokestatic hexec hown hlink hnamed hmethM hstatic hkP hinitP hy (g := g) hg (argsL := argsL) (rest := rest) (hlen _ hsigM) hstack hdg
  rcases hK m meth c ⟨T.setVm vm₁, locs, cells, slots⟩ { g with stack := rest } (.invokestatic index) mk argsL.toArray X₁ hg hsize hdg hW (X₁.named hnamed) (hpre vm₁ X₁.warmed) with ⟨v, B, X', hpost, hsteps⟩ | ⟨q, B, X', hpost, hsteps⟩
  · exact Or.inl ⟨v, vm₁, B, X₁.warmed, X', hpost, fun target h => hstep₁ _ fun acts => by rw [doInvoke_state]; exact hsteps.trans h⟩
  · exact Or.inr ⟨q, vm₁, B, X₁.warmed, X', hpost, hstep₁ _ fun acts => by rw [doInvoke_state]; exact hsteps⟩
end Calls
theorem vx_cls {s : State} {T : State} {vm₁ : Vm} {E : String} {k : ClassId} (hW : s.WarmedH vm₁) (h : (T.setVm vm₁).vm.findClass E = some k) : s.vm.findClass E = some k := by
  have h1 : vm₁.findClass E = some k := h
  rw [hW.alike.findClass] at h1
  exact h1
/-- the method's frame g, with q thrown over it -/
def vx_W (p : Program) (l : Launch) (e : Env) (R : Room) (s : State) (m : MethodId) (args : Array Value) (below : List Frame) (meth : Method) (c : Code) (H : Heap) (locs : List Loc) (cells slots : Nat) (Q : State → Prop) (g : JFrame) (q : Addr) : Prop :=
  ∀ T : State, T.heap = H → Stand p l e R s m args below meth c T locs cells slots → ∃ t, Steps p.tables e below ((T.setTop g).pushFrame (.throwing q)) t ∧ Q t
def vx_Run (p : Program) (l : Launch) (e : Env) (R : Room) (s : State) (m : MethodId) (args : Array Value) (below : List Frame) (meth : Method) (c : Code) (H : Heap) (locs : List Loc) (cells slots mc ms : Nat) (g : JFrame) (rest : List Value) (Qa : State → Outcome → State → Prop) (XC : String → State → State → Prop) (free : Addr → Prop) : Prop :=
  ∀ T : State, T.heap = H → Stand p l e R s m args below meth c T locs cells slots →
    (∃ (v : Option Value) (st₀ t T' : State) (L : List Loc), st₀.heap = H ∧ Stand p l e R s m args below meth c T' (locs ++ L) (cells + mc) (slots + ms) ∧ (∀ q ∈ L, free q.base) ∧ T'.heap = t.heap ∧ T'.vm = t.vm ∧ Qa st₀ (.returned v) t ∧
      Goes p e below T g T' { g with pc := g.pc + 3, stack := v.toList ++ rest }) ∨
    (∃ (q : Addr) (st₀ t T' : State) (L : List Loc) (E : String) (ce : Cell), st₀.heap = H ∧ Stand p l e R s m args below meth c T' (locs ++ L) (cells + mc) (slots + ms) ∧ (∀ z ∈ L, free z.base) ∧ T'.heap = t.heap ∧ T'.vm = t.vm ∧ XC E st₀ t ∧ t.heap[q]? = some ce ∧ ce.vm = .none ∧ s.vm.findClass E = some ce.cls ∧
      Steps p.tables e below (T.setTop g) ((T'.setTop { g with stack := rest }).pushFrame (.throwing q)))
def vx_X {S : Type} (px : S → Prop) (B : String → S → State → Prop) (A : Nat → Prop) : String → State → State → Prop := fun E st t => ∃ u : S, px u ∧ B E u t ∧ va_F A st t
section Runs
variable {p : Program} {l : Launch} {e : Env} {R : Room} {s : State} {m : MethodId} {args : Array Value} {below : List Frame} {meth : Method} {c : Code} {H : Heap} {locs : List Loc} {cells slots : Nat}
variable {y : MethodName} {bytes cc : ByteArray} {maxL nL mc ms n index : Nat} {ret : Option FieldType} {ws : List Cond} {rm : Room} {Pc : Array Value → State → Prop} {Qc : Array Value → State → Outcome → State → Prop} {XC : String → State → State → Prop} {free : Addr → Prop} {Ts : List Cond} {own C : String} {b : Addr} {As rest : List Value} {g : JFrame}
theorem vx_callBack (cb : CallB R s args own index y bytes maxL ret ws rm mc ms n) (hM : vx_Met l y ws rm Pc Qc XC mc ms free) (hbl : FrameBlind Pc) : vx_Back l R p e below s args y 3 8 (PreOf R mc ms Pc) (PostOf Qc mc ms free) (vx_Post XC mc ms free) := by
  obtain ⟨hrc, hrs, hfr, hlo, hws, hcw, -, hini, -⟩ := cb
  exact vx_back (bytes := bytes) (maxL := maxL) (ret := ret) hM hbl hrc hrs hfr hlo hws hcw (fun a' U hW => word_at hW (Or.inl (by first | rfl | simp [Cond.onTables, Cond.keeps, Cond.steady])) hini)
theorem vx_runV (S : CallFix p m c cc nL s args Ts own) (hM : vx_Met l y ws rm Pc Qc XC mc ms free) (cw : CallW R s args own C index y bytes maxL ret ws rm mc ms n) (hp : PreV s H C b Pc As)
    (hg : g.method = m) (hn : As.length = n) (hsize : g.locals.size = nL) (hstack : g.stack = As.reverse ++ .ref b :: rest) (hW : 2 * g.monitorRoom + (rest.map fun v => v.category).sum ≤ 8) (hdg : decode cc g.pc = .ok (.invokevirtual index, 3)) (hf : cells + mc ≤ R.cells ∧ slots + ms ≤ R.slots) :
    vx_Run p l e R s m args below meth c H locs cells slots mc ms g rest (Qc (Value.ref b :: As).toArray) XC free := by
  have hK : vx_Back l R p e below s args y 3 8 (PreOf R mc ms Pc) (PostOf Qc mc ms free) (vx_Post XC mc ms free) := vx_callBack cw.1 hM hp.1
  obtain ⟨⟨-, -, -, -, -, -, hcode, -, hy, hlen, hl⟩, hin, hse⟩ := cw
  obtain ⟨hx, hb, hml, ho, -⟩ := S
  obtain ⟨-, ⟨cellB, hcB, hoB, hclB⟩, hPc⟩ := hp
  intro T hT X
  rcases vx_callV X hx (C := C) (bytes := bytes) (maxL := maxL) (ret := ret) ho hl hin hse hcode hy hK (by rw [hT]; exact hcB) hoB hclB hg (hsize.trans hml.symm) (argsL := As) (rest := rest) (fun sig h => hn.trans (hlen sig h)) hstack hW (by rw [hb]; exact hdg)
    (fun vm₁ hW₁ => ⟨hf.1, hf.2, hPc (T.setVm vm₁) hT hW₁⟩) with ⟨v, vm₁, ⟨U', l2, c2, s2⟩, hW₁, X', ⟨g', mk, t, L, e1, e2, hq, h1, hL, h2, h3⟩, st⟩ | ⟨q, vm₁, ⟨U', l2, c2, s2⟩, hW₁, X', ⟨g', mk, t, L, E, ce, e1, e2, hq, hce, hcv, hcl, h1, hL, h2, h3⟩, st⟩
  · dsimp only [Pt.U, Pt.locs, Pt.cells, Pt.slots] at X' e1 e2 h1 h2 h3 st
    subst h1; subst h2; subst h3
    exact Or.inl ⟨v, (T.setVm vm₁).calling g' mk (Value.ref b :: As).toArray, t, U', L, hT, X', hL, e1, e2, hq, st⟩
  · dsimp only [Pt.U, Pt.locs, Pt.cells, Pt.slots] at X' e1 e2 h1 h2 h3 st hcl
    subst h1; subst h2; subst h3
    exact Or.inr ⟨q, (T.setVm vm₁).calling g' mk (Value.ref b :: As).toArray, t, U', L, E, ce, hT, X', hL, e1, e2, hq, hce, hcv, vx_cls hW₁ hcl, st⟩
theorem vx_runS (S : CallFix p m c cc nL s args Ts own) (hM : vx_Met l y ws rm Pc Qc XC mc ms free) (cw : CallB R s args own index y bytes maxL ret ws rm mc ms n ∧ (Cond.static y).before args s = true) (hp : PreS s H Pc As)
    (hg : g.method = m) (hn : As.length = n) (hsize : g.locals.size = nL) (hstack : g.stack = As.reverse ++ rest) (hW : 2 * g.monitorRoom + (rest.map fun v => v.category).sum ≤ 8) (hdg : decode cc g.pc = .ok (.invokestatic index, 3)) (hf : cells + mc ≤ R.cells ∧ slots + ms ≤ R.slots) :
    vx_Run p l e R s m args below meth c H locs cells slots mc ms g rest (Qc As.toArray) XC free := by
  have hK : vx_Back l R p e below s args y 3 8 (PreOf R mc ms Pc) (PostOf Qc mc ms free) (vx_Post XC mc ms free) := vx_callBack cw.1 hM hp.1
  obtain ⟨⟨-, -, -, -, -, -, hcode, hini, hy, hlen, hl⟩, hstt⟩ := cw
  obtain ⟨hx, hb, hml, ho, -⟩ := S
  intro T hT X
  rcases vx_callS X hx (bytes := bytes) (maxL := maxL) (ret := ret) ho hl hstt hini hcode hy hK hg (hsize.trans hml.symm) (argsL := As) (rest := rest) (fun sig h => hn.trans (hlen sig h)) hstack hW (by rw [hb]; exact hdg)
    (fun vm₁ hW₁ => ⟨hf.1, hf.2, hp.2 (T.setVm vm₁) hT hW₁⟩) with ⟨v, vm₁, ⟨U', l2, c2, s2⟩, hW₁, X', ⟨g', mk, t, L, e1, e2, hq, h1, hL, h2, h3⟩, st⟩ | ⟨q, vm₁, ⟨U', l2, c2, s2⟩, hW₁, X', ⟨g', mk, t, L, E, ce, e1, e2, hq, hce, hcv, hcl, h1, hL, h2, h3⟩, st⟩
  · dsimp only [Pt.U, Pt.locs, Pt.cells, Pt.slots] at X' e1 e2 h1 h2 h3 st
    subst h1; subst h2; subst h3
    exact Or.inl ⟨v, (T.setVm vm₁).calling g' mk As.toArray, t, U', L, hT, X', hL, e1, e2, hq, st⟩
  · dsimp only [Pt.U, Pt.locs, Pt.cells, Pt.slots] at X' e1 e2 h1 h2 h3 st hcl
    subst h1; subst h2; subst h3
    exact Or.inr ⟨q, (T.setVm vm₁).calling g' mk As.toArray, t, U', L, E, ce, hT, X', hL, e1, e2, hq, hce, hcv, vx_cls hW₁ hcl, st⟩
end Runs
section Rows
variable {p : Program} {l : Launch} {e : Env} {R : Room} {s : State} {m : MethodId} {args : Array Value} {below : List Frame} {meth : Method} {c : Code} {H : Heap} {locs : List Loc} {cells slots : Nat} {Q : State → Prop}
variable {mc ms : Nat} {free : Addr → Prop} {A0 A1 : Nat → Prop} {H0 : Heap} {a : Array Value} {pc : Nat} {ls : Array Slot} {st0 rest : List Value}
theorem vx_keep {st₀ t T' : State} {L : List Loc} (h0 : st₀.heap = H) (e1 : T'.heap = t.heap) (hS : va_S A0 H0 H locs) (hA : ∀ q, q < H.size → A1 q → A0 q) (hf : ∀ q, free q → A0 q) (hL : ∀ q ∈ L, free q.base) (hF : va_F A1 st₀ t) :
    H.size ≤ T'.heap.size ∧ (∀ q : Nat, q < H.size → ¬ A1 q → T'.heap[q]? = H[q]?) ∧ va_S A0 H0 T'.heap (locs ++ L) := by
  obtain ⟨hz, hk⟩ := hF
  rw [h0] at hz hk
  exact ⟨by rw [e1]; exact hz, fun q h1 h2 => by rw [e1]; exact hk q h1 h2,
    ⟨Nat.le_trans hS.1 (by rw [e1]; exact hz), fun q h1 h2 => by rw [e1, hk q (Nat.lt_of_lt_of_le h1 hS.1) (fun z => h2 (hA q (Nat.lt_of_lt_of_le h1 hS.1) z))]; exact hS.2.1 q h1 h2, fun q hq => by
      rcases List.mem_append.mp hq with h | h
      · exact hS.2.2 q h
      · exact hf _ (hL q h)⟩⟩
theorem vx_calli {S SX : Type} {post : Int32 → S → Prop} {px : SX → Prop} {B : S → State → Prop} {BX : String → SX → State → Prop} {AX : Nat → Prop} (hr : vx_Run p l e R s m args below meth c H locs cells slots mc ms (F0 m pc ls st0) rest (va_Qi post B A1 a) (vx_X px BX AX) free) (hS : va_S A0 H0 H locs) (hA : ∀ q, q < H.size → A1 q → A0 q) (hf : ∀ q, free q → A0 q) (hAX : ∀ q, q < H.size → AX q → A0 q)
    (kx : ∀ (E : String) (ce : Cell) (q9 : Addr) (u : SX) (t : State) (H1 : Heap) (locs1 : List Loc), t.heap = H1 → s.vm.Alike t.vm → px u → BX E u t → H.size ≤ H1.size → (∀ q : Nat, q < H.size → ¬ AX q → H1[q]? = H[q]?) → va_S A0 H0 H1 locs1 → H1[q9]? = some ce → ce.vm = .none → s.vm.findClass E = some ce.cls → vx_W p l e R s m args below meth c H1 locs1 (cells + mc) (slots + ms) Q (F0 m pc ls rest) q9)
    (kk : ∀ (r : Int32) (u : S) (t : State) (H1 : Heap) (locs1 : List Loc), t.heap = H1 → s.vm.Alike t.vm → post r u → B u t → H.size ≤ H1.size → (∀ q : Nat, q < H.size → ¬ A1 q → H1[q]? = H[q]?) → va_S A0 H0 H1 locs1 → W p l e R s m args below meth c H1 locs1 (cells + mc) (slots + ms) Q (F0 m (pc + 3) ls (.int r :: rest))) : W p l e R s m args below meth c H locs cells slots Q (F0 m pc ls st0) := by
  intro T hT X
  rcases hr T hT X with ⟨v, st₀, t, T', L, h0, X', hL, e1, e2, ⟨⟨r, u, hv, hp, hb⟩, hF⟩, st⟩ | ⟨q, st₀, t, T', L, E, ce, h0, X', hL, e1, e2, ⟨u, hp, hb, hF⟩, hce, hcv, hcl, st⟩
  · cases hv
    obtain ⟨k1, k2, k3⟩ := vx_keep h0 e1 hS hA hf hL hF
    obtain ⟨t2, a1, b1⟩ := kk r u t T'.heap (locs ++ L) e1.symm (by rw [← e2]; exact X'.warmed.alike) hp hb k1 k2 k3 T' rfl X'
    exact ⟨t2, st t2 a1, b1⟩
  · obtain ⟨k1, k2, k3⟩ := vx_keep h0 e1 hS hAX hf hL hF
    obtain ⟨t2, a1, b1⟩ := kx E ce q u t T'.heap (locs ++ L) e1.symm (by rw [← e2]; exact X'.warmed.alike) hp hb k1 k2 k3 (by rw [e1]; exact hce) hcv hcl T' rfl X'
    exact ⟨t2, st.trans a1, b1⟩
theorem vx_calll {S SX : Type} {post : Int64 → S → Prop} {px : SX → Prop} {B : S → State → Prop} {BX : String → SX → State → Prop} {AX : Nat → Prop} (hr : vx_Run p l e R s m args below meth c H locs cells slots mc ms (F0 m pc ls st0) rest (va_Ql post B A1 a) (vx_X px BX AX) free) (hS : va_S A0 H0 H locs) (hA : ∀ q, q < H.size → A1 q → A0 q) (hf : ∀ q, free q → A0 q) (hAX : ∀ q, q < H.size → AX q → A0 q)
    (kx : ∀ (E : String) (ce : Cell) (q9 : Addr) (u : SX) (t : State) (H1 : Heap) (locs1 : List Loc), t.heap = H1 → s.vm.Alike t.vm → px u → BX E u t → H.size ≤ H1.size → (∀ q : Nat, q < H.size → ¬ AX q → H1[q]? = H[q]?) → va_S A0 H0 H1 locs1 → H1[q9]? = some ce → ce.vm = .none → s.vm.findClass E = some ce.cls → vx_W p l e R s m args below meth c H1 locs1 (cells + mc) (slots + ms) Q (F0 m pc ls rest) q9)
    (kk : ∀ (r : Int64) (u : S) (t : State) (H1 : Heap) (locs1 : List Loc), t.heap = H1 → s.vm.Alike t.vm → post r u → B u t → H.size ≤ H1.size → (∀ q : Nat, q < H.size → ¬ A1 q → H1[q]? = H[q]?) → va_S A0 H0 H1 locs1 → W p l e R s m args below meth c H1 locs1 (cells + mc) (slots + ms) Q (F0 m (pc + 3) ls (.long r :: rest))) : W p l e R s m args below meth c H locs cells slots Q (F0 m pc ls st0) := by
  intro T hT X
  rcases hr T hT X with ⟨v, st₀, t, T', L, h0, X', hL, e1, e2, ⟨⟨r, u, hv, hp, hb⟩, hF⟩, st⟩ | ⟨q, st₀, t, T', L, E, ce, h0, X', hL, e1, e2, ⟨u, hp, hb, hF⟩, hce, hcv, hcl, st⟩
  · cases hv
    obtain ⟨k1, k2, k3⟩ := vx_keep h0 e1 hS hA hf hL hF
    obtain ⟨t2, a1, b1⟩ := kk r u t T'.heap (locs ++ L) e1.symm (by rw [← e2]; exact X'.warmed.alike) hp hb k1 k2 k3 T' rfl X'
    exact ⟨t2, st t2 a1, b1⟩
  · obtain ⟨k1, k2, k3⟩ := vx_keep h0 e1 hS hAX hf hL hF
    obtain ⟨t2, a1, b1⟩ := kx E ce q u t T'.heap (locs ++ L) e1.symm (by rw [← e2]; exact X'.warmed.alike) hp hb k1 k2 k3 (by rw [e1]; exact hce) hcv hcl T' rfl X'
    exact ⟨t2, st.trans a1, b1⟩
theorem vx_callf {S SX : Type} {post : UInt32 → S → Prop} {px : SX → Prop} {B : S → State → Prop} {BX : String → SX → State → Prop} {AX : Nat → Prop} (hr : vx_Run p l e R s m args below meth c H locs cells slots mc ms (F0 m pc ls st0) rest (va_Qf post B A1 a) (vx_X px BX AX) free) (hS : va_S A0 H0 H locs) (hA : ∀ q, q < H.size → A1 q → A0 q) (hf : ∀ q, free q → A0 q) (hAX : ∀ q, q < H.size → AX q → A0 q)
    (kx : ∀ (E : String) (ce : Cell) (q9 : Addr) (u : SX) (t : State) (H1 : Heap) (locs1 : List Loc), t.heap = H1 → s.vm.Alike t.vm → px u → BX E u t → H.size ≤ H1.size → (∀ q : Nat, q < H.size → ¬ AX q → H1[q]? = H[q]?) → va_S A0 H0 H1 locs1 → H1[q9]? = some ce → ce.vm = .none → s.vm.findClass E = some ce.cls → vx_W p l e R s m args below meth c H1 locs1 (cells + mc) (slots + ms) Q (F0 m pc ls rest) q9)
    (kk : ∀ (r : UInt32) (u : S) (t : State) (H1 : Heap) (locs1 : List Loc), t.heap = H1 → s.vm.Alike t.vm → post r u → B u t → H.size ≤ H1.size → (∀ q : Nat, q < H.size → ¬ A1 q → H1[q]? = H[q]?) → va_S A0 H0 H1 locs1 → W p l e R s m args below meth c H1 locs1 (cells + mc) (slots + ms) Q (F0 m (pc + 3) ls (.float r :: rest))) : W p l e R s m args below meth c H locs cells slots Q (F0 m pc ls st0) := by
  intro T hT X
  rcases hr T hT X with ⟨v, st₀, t, T', L, h0, X', hL, e1, e2, ⟨⟨r, u, hv, hp, hb⟩, hF⟩, st⟩ | ⟨q, st₀, t, T', L, E, ce, h0, X', hL, e1, e2, ⟨u, hp, hb, hF⟩, hce, hcv, hcl, st⟩
  · cases hv
    obtain ⟨k1, k2, k3⟩ := vx_keep h0 e1 hS hA hf hL hF
    obtain ⟨t2, a1, b1⟩ := kk r u t T'.heap (locs ++ L) e1.symm (by rw [← e2]; exact X'.warmed.alike) hp hb k1 k2 k3 T' rfl X'
    exact ⟨t2, st t2 a1, b1⟩
  · obtain ⟨k1, k2, k3⟩ := vx_keep h0 e1 hS hAX hf hL hF
    obtain ⟨t2, a1, b1⟩ := kx E ce q u t T'.heap (locs ++ L) e1.symm (by rw [← e2]; exact X'.warmed.alike) hp hb k1 k2 k3 (by rw [e1]; exact hce) hcv hcl T' rfl X'
    exact ⟨t2, st.trans a1, b1⟩
theorem vx_calld {S SX : Type} {post : UInt64 → S → Prop} {px : SX → Prop} {B : S → State → Prop} {BX : String → SX → State → Prop} {AX : Nat → Prop} (hr : vx_Run p l e R s m args below meth c H locs cells slots mc ms (F0 m pc ls st0) rest (va_Qd post B A1 a) (vx_X px BX AX) free) (hS : va_S A0 H0 H locs) (hA : ∀ q, q < H.size → A1 q → A0 q) (hf : ∀ q, free q → A0 q) (hAX : ∀ q, q < H.size → AX q → A0 q)
    (kx : ∀ (E : String) (ce : Cell) (q9 : Addr) (u : SX) (t : State) (H1 : Heap) (locs1 : List Loc), t.heap = H1 → s.vm.Alike t.vm → px u → BX E u t → H.size ≤ H1.size → (∀ q : Nat, q < H.size → ¬ AX q → H1[q]? = H[q]?) → va_S A0 H0 H1 locs1 → H1[q9]? = some ce → ce.vm = .none → s.vm.findClass E = some ce.cls → vx_W p l e R s m args below meth c H1 locs1 (cells + mc) (slots + ms) Q (F0 m pc ls rest) q9)
    (kk : ∀ (r : UInt64) (u : S) (t : State) (H1 : Heap) (locs1 : List Loc), t.heap = H1 → s.vm.Alike t.vm → post r u → B u t → H.size ≤ H1.size → (∀ q : Nat, q < H.size → ¬ A1 q → H1[q]? = H[q]?) → va_S A0 H0 H1 locs1 → W p l e R s m args below meth c H1 locs1 (cells + mc) (slots + ms) Q (F0 m (pc + 3) ls (.double r :: rest))) : W p l e R s m args below meth c H locs cells slots Q (F0 m pc ls st0) := by
  intro T hT X
  rcases hr T hT X with ⟨v, st₀, t, T', L, h0, X', hL, e1, e2, ⟨⟨r, u, hv, hp, hb⟩, hF⟩, st⟩ | ⟨q, st₀, t, T', L, E, ce, h0, X', hL, e1, e2, ⟨u, hp, hb, hF⟩, hce, hcv, hcl, st⟩
  · cases hv
    obtain ⟨k1, k2, k3⟩ := vx_keep h0 e1 hS hA hf hL hF
    obtain ⟨t2, a1, b1⟩ := kk r u t T'.heap (locs ++ L) e1.symm (by rw [← e2]; exact X'.warmed.alike) hp hb k1 k2 k3 T' rfl X'
    exact ⟨t2, st t2 a1, b1⟩
  · obtain ⟨k1, k2, k3⟩ := vx_keep h0 e1 hS hAX hf hL hF
    obtain ⟨t2, a1, b1⟩ := kx E ce q u t T'.heap (locs ++ L) e1.symm (by rw [← e2]; exact X'.warmed.alike) hp hb k1 k2 k3 (by rw [e1]; exact hce) hcv hcl T' rfl X'
    exact ⟨t2, st.trans a1, b1⟩
theorem vx_callv {S SX : Type} {post : S → Prop} {px : SX → Prop} {B : S → State → Prop} {BX : String → SX → State → Prop} {AX : Nat → Prop} (hr : vx_Run p l e R s m args below meth c H locs cells slots mc ms (F0 m pc ls st0) rest (va_Qv post B A1 a) (vx_X px BX AX) free) (hS : va_S A0 H0 H locs) (hA : ∀ q, q < H.size → A1 q → A0 q) (hf : ∀ q, free q → A0 q) (hAX : ∀ q, q < H.size → AX q → A0 q)
    (kx : ∀ (E : String) (ce : Cell) (q9 : Addr) (u : SX) (t : State) (H1 : Heap) (locs1 : List Loc), t.heap = H1 → s.vm.Alike t.vm → px u → BX E u t → H.size ≤ H1.size → (∀ q : Nat, q < H.size → ¬ AX q → H1[q]? = H[q]?) → va_S A0 H0 H1 locs1 → H1[q9]? = some ce → ce.vm = .none → s.vm.findClass E = some ce.cls → vx_W p l e R s m args below meth c H1 locs1 (cells + mc) (slots + ms) Q (F0 m pc ls rest) q9)
    (kk : ∀ (u : S) (t : State) (H1 : Heap) (locs1 : List Loc), t.heap = H1 → s.vm.Alike t.vm → post u → B u t → H.size ≤ H1.size → (∀ q : Nat, q < H.size → ¬ A1 q → H1[q]? = H[q]?) → va_S A0 H0 H1 locs1 → W p l e R s m args below meth c H1 locs1 (cells + mc) (slots + ms) Q (F0 m (pc + 3) ls (rest))) : W p l e R s m args below meth c H locs cells slots Q (F0 m pc ls st0) := by
  intro T hT X
  rcases hr T hT X with ⟨v, st₀, t, T', L, h0, X', hL, e1, e2, ⟨⟨u, hv, hp, hb⟩, hF⟩, st⟩ | ⟨q, st₀, t, T', L, E, ce, h0, X', hL, e1, e2, ⟨u, hp, hb, hF⟩, hce, hcv, hcl, st⟩
  · cases hv
    obtain ⟨k1, k2, k3⟩ := vx_keep h0 e1 hS hA hf hL hF
    obtain ⟨t2, a1, b1⟩ := kk u t T'.heap (locs ++ L) e1.symm (by rw [← e2]; exact X'.warmed.alike) hp hb k1 k2 k3 T' rfl X'
    exact ⟨t2, st t2 a1, b1⟩
  · obtain ⟨k1, k2, k3⟩ := vx_keep h0 e1 hS hAX hf hL hF
    obtain ⟨t2, a1, b1⟩ := kx E ce q u t T'.heap (locs ++ L) e1.symm (by rw [← e2]; exact X'.warmed.alike) hp hb k1 k2 k3 (by rw [e1]; exact hce) hcv hcl T' rfl X'
    exact ⟨t2, st.trans a1, b1⟩
/-- caught by the row x of this method's table; the rows ahead don't take it -/
theorem vx_catch {own name : String} {E : String} {ce : Cell} {q : Addr} (hown : s.vm.findClass own = some m.cls) (pre : List ExceptionTableEntry) (x : ExceptionTableEntry) (suf : List ExceptionTableEntry) (hsplit : c.exceptionTable.toList = pre ++ x :: suf)
    (hpass : ∀ z ∈ pre, covers z pc = false ∨ (z.catchType ≠ 0 ∧ ∃ nm : String, (Cond.classLink own z.catchType nm).before args s = true ∧ va_Nc E nm s)) (hx : covers x pc = true) (h0 : x.catchType ≠ 0)
    (hlink : (Cond.classLink own x.catchType name).before args s = true) (hcast : (Cond.castable E name).before args s = true) (hcell : H[q]? = some ce) (hv : ce.vm = .none) (hcl : s.vm.findClass E = some ce.cls)
    (kk : W p l e R s m args below meth c H locs cells slots Q (F0 m x.handlerPc ls [.ref q])) : vx_W p l e R s m args below meth c H locs cells slots Q (F0 m pc ls rest) q := by
  intro T hT X
  have hpl : e.platform.magicAccessors = ({} : Platform).magicAccessors := by rw [X.admits.platform]
  obtain ⟨c3, c4, hc3, hc4, hasg⟩ := Cond.castable_spec hcast
  cases Option.some.inj (hc3.symm.trans hcl)
  obtain ⟨c5, hc5, hcl5⟩ := Cond.classLink_spec hown hlink e.platform hpl
  cases Option.some.inj (hc4.symm.trans hc5)
  obtain ⟨vm', X', st⟩ := X.thenCaughtThrough q (g := F0 m pc ls rest) rfl (Steps.refl _) (by rw [hT]; exact hcell) (by rw [hv]; rfl) (by obtain ⟨k9, h9, -⟩ := Vm.findClass_spec hcl; exact ⟨k9, h9⟩) pre x suf hsplit
    (fun z hz => by
      rcases hpass z hz with h | ⟨hz0, nm, hl1, hn1⟩
      · exact Or.inl h
      · obtain ⟨c6, hc6, hcl6⟩ := Cond.classLink_spec hown hl1 e.platform hpl
        obtain ⟨a8, b8, h1, h2, h3⟩ := hn1
        cases Option.some.inj (h1.symm.trans hcl)
        cases Option.some.inj (h2.symm.trans hc6)
        exact Or.inr ⟨hz0, _, hcl6, h3⟩) hx (Or.inr ⟨h0, c4, hcl5, hasg⟩)
  obtain ⟨t, a1, b1⟩ := kk (T.setVm vm') hT X'
  exact ⟨t, st.trans a1, b1⟩
end Rows
section Ends
variable {p : Program} {l : Launch} {e : Env} {R : Room} {s : State} {m : MethodId} {args : Array Value} {below : List Frame} {meth : Method} {c : Code} {H : Heap} {locs : List Loc} {cells slots : Nat} {Q : State → Prop}
variable {mc ms : Nat} {free : Addr → Prop} {A0 A1 : Nat → Prop} {H0 : Heap} {a : Array Value} {ls : Array Slot} {st0 rest : List Value}
variable {Qc : Array Value → State → Outcome → State → Prop} {XC : String → State → State → Prop}
/-- what a body that may throw owes at its end -/
def vx_MQ (below : List Frame) (Qc : Array Value → State → Outcome → State → Prop) (XC : String → State → State → Prop) (a : Array Value) (s : State) (mc ms : Nat) (free : Addr → Prop) : State → Prop := fun t =>
  ∃ o, t.status = .running ∧ Ended t below o ∧ vx_Q Qc XC mc ms free a s o t
theorem vx_ret {g : JFrame} {mc ms : Nat} (k : W p l e R s m args below meth c H locs cells slots (MQ below Qc args s mc ms free) g) : W p l e R s m args below meth c H locs cells slots (vx_MQ below Qc XC args s mc ms free) g := by
  intro T hT X
  obtain ⟨t, a1, o, b1, b2, b3, b4⟩ := k T hT X
  exact ⟨t, a1, o, b1, b2, Or.inl ⟨b3, b4⟩⟩
/-- not caught here: it goes on to the caller -/
theorem vx_widen {g : JFrame} {q : Addr} {k n : Nat} (h1 : cells ≤ k) (h2 : slots ≤ n) (kk : vx_W p l e R s m args below meth c H locs k n Q g q) : vx_W p l e R s m args below meth c H locs cells slots Q g q := fun T hT X => kk T hT (stand_widen X h1 h2)
theorem vx_out {pc : Nat} {E : String} {ce : Cell} {q : Addr} {mc ms : Nat} (hout : ∀ x ∈ c.exceptionTable.toList, covers x pc = false) (hlocks : meth.locks = false) (hcell : H[q]? = some ce) (hv : ce.vm = .none) (hcl : s.vm.findClass E = some ce.cls)
    (hx : ∀ t : State, t.heap = H → s.vm.Alike t.vm → XC E s t) (hf : ∀ z ∈ locs, free z.base) (hc : cells ≤ mc) (hs : slots ≤ ms) :
    vx_W p l e R s m args below meth c H locs cells slots (vx_MQ below Qc XC args s mc ms free) (F0 m pc ls rest) q := by
  intro T hT X
  obtain ⟨st1, hrun, hend, hW, hsm⟩ := X.leaveThrown q (g := F0 m pc ls rest) rfl rfl rfl hout hlocks
  have hcell9 : (T.setFrames (.throwing q :: below)).heap[q]? = some ce := by
    show T.heap[q]? = some ce
    rw [hT]; exact hcell
  exact ⟨_, st1, .threw q, hrun, hend, Or.inr ⟨q, rfl, E, ce, locs, hx _ hT hW.alike, hcell9, hv, hcl, hW, hsm.mono hc hs, hf⟩⟩
theorem vx_frame {U : State} {k n : Nat} (h : s.sameButNew ({ U with vm := s.vm } : State) locs k n) : s.heap.size ≤ U.heap.size ∧ ∀ q : Nat, q < s.heap.size → (∀ z ∈ locs, z.base ≠ q) → U.heap[q]? = s.heap[q]? := by
  obtain ⟨-, h2, -, -, -, h6⟩ := h
  refine ⟨h2, fun q hq hz => ?_⟩
  obtain ⟨c9, e1, e2, e3, e4⟩ := h6 q _ (Array.getElem?_eq_getElem hq)
  have hs : c9.slots = (s.heap[q]).slots := Array.ext_getElem? fun i => e4 i fun hm => hz _ hm rfl
  have h9 : c9 = s.heap[q] := by
    rw [hs] at e2
    exact e2
  have e5 : U.heap[q]? = some c9 := e1
  rw [e5, h9, Array.getElem?_eq_getElem hq]
/-- the words of a throw but the four that speak of the heap -/
def vx_no (w : Cond) : Bool := decide (w ≠ .isRef (.static Bundle.tN "UNASSIGNED_STACK" Bundle.steD)) && decide (w ≠ .isRef (.static Bundle.tN "SUPPRESSED_SENTINEL" Bundle.listD)) && decide (w ≠ .laysStatic Bundle.tN "UNASSIGNED_STACK" Bundle.steD) && decide (w ≠ .laysStatic Bundle.tN "SUPPRESSED_SENTINEL" Bundle.listD)
def vx_at0 (own : String) (ic : Nat) (X : String) (names : List String) : List Cond := (Bundle.ownAtoms0 own ic X names).filter vx_no
def vx_atS (own : String) (ic : Nat) (X : String) (names : List String) : List Cond := (Bundle.ownAtoms own ic X names).filter vx_no
/-- a word that the tables alone decide, or a good one -/
def vx_ot (w : Cond) : Bool := w.onTables || goodWord w
theorem vx_ot_at {args a' : Array Value} {s U : State} {w : Cond} (hW : s.WarmedH U.vm) (hvm : s.vm = U.vm) (hg : vx_ot w = true) (h : w.before args s = true) : w.before a' U = true := by
  simp only [vx_ot, Bool.or_eq_true] at hg
  rcases hg with hg | hg
  · exact va_tabs hg hvm h
  · exact word_at hW (good_of_word hg) h
/-- a list's words: the good ones out of the method's own list, the others by premises of their own -/
theorem vx_hat {args : Array Value} {s : State} {L B : List Cond} (h1 : ∀ w ∈ L.filter goodWord, w.before args s = true) (h2 : ∀ w ∈ L.filter (fun w => !goodWord w), w ∈ B) (h3 : ∀ w ∈ B, w.before args s = true) : ∀ w ∈ L, w.before args s = true := by
  intro w hw
  by_cases g : goodWord w = true
  · exact h1 w (List.mem_filter.mpr ⟨hw, g⟩)
  · refine h3 w (h2 w (List.mem_filter.mpr ⟨hw, ?_⟩))
    show (!goodWord w) = true
    cases hgw : goodWord w
    · rfl
    · exact absurd hgw g
theorem vx_c {args : Array Value} {s : State} {w : Cond} {B : List Cond} (h : w.before args s = true) (t : ∀ w ∈ B, w.before args s = true) : ∀ w' ∈ w :: B, w'.before args s = true := fun w' h' => (List.mem_cons.mp h').elim (fun e => by rw [e]; exact h) (t w')
theorem vx_n {args : Array Value} {s : State} : ∀ w ∈ ([] : List Cond), w.before args s = true := fun _ h => nomatch h
theorem vx_own {args : Array Value} {s : State} {L : List Cond} (h1 : ∀ w ∈ L.filter vx_no, w.before args s = true)
    (hU : (Cond.isRef (.static Bundle.tN "UNASSIGNED_STACK" Bundle.steD)).before args s = true) (hN : (Cond.isRef (.static Bundle.tN "SUPPRESSED_SENTINEL" Bundle.listD)).before args s = true)
    (lU : (Cond.laysStatic Bundle.tN "UNASSIGNED_STACK" Bundle.steD).before args s = true) (lN : (Cond.laysStatic Bundle.tN "SUPPRESSED_SENTINEL" Bundle.listD).before args s = true) : ∀ w ∈ L, w.before args s = true := by
  intro w hw
  by_cases e1 : w = .isRef (.static Bundle.tN "UNASSIGNED_STACK" Bundle.steD)
  · rw [e1]; exact hU
  · by_cases e2 : w = .isRef (.static Bundle.tN "SUPPRESSED_SENTINEL" Bundle.listD)
    · rw [e2]; exact hN
    · by_cases e3 : w = .laysStatic Bundle.tN "UNASSIGNED_STACK" Bundle.steD
      · rw [e3]; exact lU
      · by_cases e4 : w = .laysStatic Bundle.tN "SUPPRESSED_SENTINEL" Bundle.listD
        · rw [e4]; exact lN
        · exact h1 w (List.mem_filter.mpr ⟨hw, by unfold vx_no; rw [decide_eq_true e1, decide_eq_true e2, decide_eq_true e3, decide_eq_true e4]; rfl⟩)
/-- where a static field lies, its class's statics cell in H -/
def vx_L (C n d : String) (A : Nat → Prop) (U : State) (H : Heap) : Prop := ∃ (c : ClassId) (k : Class) (i : Nat) (f : Field) (a : Nat) (cell : Cell), U.vm.findClass C = some c ∧ U.fieldFound? C n d = some (c, k, i, f) ∧ f.isStatic = true ∧ k.statics = some a ∧ H[a]? = some cell ∧ cell.vm.isStatics = true ∧ cell.cls = c ∧ f.slot < cell.slots.size ∧ k.staticTypes[f.slot]? = some f.type ∧ ¬ A a
theorem vx_L.moved {C n d : String} {A : Nat → Prop} {u U : State} {H : Heap} (hvm : u.vm.Alike U.vm) (h : vx_L C n d A u H) : vx_L C n d A U H := by
  obtain ⟨c, k, i, f, a, cell, h1, h2, h3, h4, h5, h6, h7, h8, h9, h10⟩ := h
  obtain ⟨k', hi', he⟩ := State.fieldFound?_setVm hvm h2
  exact ⟨c, k', i, f, a, cell, by rw [hvm.findClass]; exact h1, hi', h3, by rw [he]; exact h4, h5, h6, h7, h8, by rw [he]; exact h9, h10⟩
theorem vx_L.kept {C n d : String} {A : Nat → Prop} {U : State} {H H1 : Heap} (h : vx_L C n d A U H) (hq : ∀ a : Nat, a < H.size → ¬ A a → H1[a]? = H[a]?) : vx_L C n d A U H1 := by
  obtain ⟨c, k, i, f, a, cell, h1, h2, h3, h4, h5, h6, h7, h8, h9, h10⟩ := h
  exact ⟨c, k, i, f, a, cell, h1, h2, h3, h4, by rw [hq a (Array.getElem?_eq_some_iff.mp h5).1 h10]; exact h5, h6, h7, h8, h9, h10⟩
theorem vx_L.narrow {C n d : String} {A B : Nat → Prop} {U : State} {H : Heap} (h : vx_L C n d A U H) (hAB : ∀ q, B q → A q) : vx_L C n d B U H := by
  obtain ⟨c, k, i, f, a, cell, h1, h2, h3, h4, h5, h6, h7, h8, h9, h10⟩ := h
  exact ⟨c, k, i, f, a, cell, h1, h2, h3, h4, h5, h6, h7, h8, h9, fun z => h10 (hAB _ z)⟩
theorem vx_L.word {C n d : String} {A : Nat → Prop} {s : State} {args : Array Value} (h : vx_L C n d A s s.heap) : (Cond.laysStatic C n d).before args s = true := by
  obtain ⟨c, k, i, f, a, cell, h1, h2, h3, h4, h5, h6, h7, h8, h9, -⟩ := h
  show (Cond.laysStatic C n d).holds args s none s [] = true
  exact Cond.laysStatic_of h1 h2 h3 h4 h5 h6 h7 h8 h9
/-- .. and what it holds: null or some reference -/
def vx_Zq (C n d : String) (A : Nat → Prop) (U : State) (H : Heap) : Prop := va_Zq C n d A U H ∧ vx_L C n d A U H
theorem vx_Zq.moved {C n d : String} {A : Nat → Prop} {u U : State} {H : Heap} (hvm : u.vm.Alike U.vm) (h : vx_Zq C n d A u H) : vx_Zq C n d A U H := ⟨va_Zq.moved hvm h.1, vx_L.moved hvm h.2⟩
theorem vx_Zq.kept {C n d : String} {A : Nat → Prop} {U : State} {H H1 : Heap} (h : vx_Zq C n d A U H) (hq : ∀ a : Nat, a < H.size → ¬ A a → H1[a]? = H[a]?) : vx_Zq C n d A U H1 := ⟨va_Zq.kept h.1 hq, vx_L.kept h.2 hq⟩
theorem vx_Zq.narrow {C n d : String} {A B : Nat → Prop} {U : State} {H : Heap} (h : vx_Zq C n d A U H) (hAB : ∀ q, B q → A q) : vx_Zq C n d B U H := ⟨va_Zq.narrow h.1 hAB, vx_L.narrow h.2 hAB⟩
theorem vx_Zqof {args : Array Value} {s : State} {C n d : String} {A : Nat → Prop} (hl : (Cond.laysStatic C n d).before args s = true) (hini : (Cond.initialized C).before args s = true) (h : (Cond.isRef (.static C n d)).before args s = true) (hA : ∀ a : Nat, a < s.heap.size → ¬ A a) : vx_Zq C n d A s s.heap := by
  refine ⟨va_Zqof hl hini h hA, ?_⟩
  obtain ⟨c, k, i, f, a, cell, h1, h2, h3, h4, h5, h6, h7, h8, h9⟩ := Cond.laysStatic_spec hl
  exact ⟨c, k, i, f, a, cell, h1, h2, h3, h4, h5, h6, h7, h8, h9, hA a (Array.getElem?_eq_some_iff.mp h5).1⟩
theorem vx_isRef {C n d : String} {v : Value} {A : Nat → Prop} {s : State} {args : Array Value} (h : va_Z C n d v A s s.heap) (hv : v.isRef = true) : (Cond.isRef (.static C n d)).before args s = true := by
  obtain ⟨cf, kf, fi, f, a, cell, h1, h2, h3, h4, h5, h6, h7, -⟩ := h
  have he : (Term.static C n d).eval args s none [] s = some v := by
    simp [Term.eval, State.fieldNamed?, h1, h2, h4, h5, h6, h7]
  simp only [Cond.before, Cond.holds, Cond.value, he]
  cases v <;> simp_all [Value.isRef]
theorem vx_isRefq {C n d : String} {A : Nat → Prop} {s : State} {args : Array Value} (h : va_Zq C n d A s s.heap) : (Cond.isRef (.static C n d)).before args s = true := by
  rcases h with h | ⟨t, h⟩
  · exact vx_isRef h rfl
  · exact vx_isRef h rfl
/-- the same frame, seen from here: as if the method were called anew in this heap -/
theorem vx_rebase {T : State} (X : Stand p l e R s m args below meth c T locs cells slots) {R' : Room} (hf : R'.frames ≤ R.frames) (hl : R'.locals ≤ R.locals) (hc : cells + R'.cells ≤ R.cells) (hs : slots + R'.slots ≤ R.slots) :
    Stand p l e R' ((T.setVm s.vm).setFrames (.invoking m args :: below)) m args below meth c T [] 0 0 := by
  have htop : (T.setVm s.vm).topJava?.isSome := X.here.top
  have hF : ((T.setVm s.vm).setFrames (.invoking m args :: below)).frames = .invoking m args :: below := State.frames_setFrames _ (State.cur_lt_of_top htop)
  obtain ⟨g₀, hg0⟩ := Option.isSome_iff_exists.mp htop
  obtain ⟨r, hr⟩ := State.topJava?_eq_some.mp hg0
  have hl9 : e.platform.stackLimits (T.setVm s.vm).me = e.platform.stackLimits s.me := X.limits
  have hb9 : (T.setVm s.vm).me.stackBytes = s.me.stackBytes := X.bytes
  refine ⟨X.admits, X.cas, X.clock, hF, ?_, X.hears, X.method, X.code, X.here, X.tail, X.warmed, ?_, ?_, ?_⟩
  · have h := X.room
    have hU : ((T.setVm s.vm).setFrames (.invoking m args :: below)).localsInUse = s.localsInUse := by
      rw [State.localsInUse_invoking hF (meth := meth) (c := c) X.method X.code, State.localsInUse_invoking X.frames X.method X.code]
    simp only [State.hasRoom, Bool.and_eq_true, decide_eq_true_eq] at h ⊢
    obtain ⟨⟨⟨⟨h1, h2, h3, h4, h5, h6⟩, h7⟩, h8⟩, h9⟩ := h
    rw [X.frames, List.length_cons] at h2 h3
    have q1 := X.heapSize
    have q2 := X.used
    simp only [hF, hU, List.length_cons, State.stackLimits_setFrames, State.stackBytes_setFrames, hl9, hb9]
    refine ⟨⟨⟨⟨by omega, by omega, by omega, by omega, by omega, h6⟩, ?_⟩, ?_⟩, X.book⟩
    · show T.heap.size + R'.cells ≤ e.platform.maxCells
      omega
    · show T.slotsUsed + R'.slots ≤ e.platform.maxSlots
      omega
  · rw [State.stackLimits_setFrames]; rfl
  · rw [State.stackBytes_setFrames]; rfl
  · refine ⟨?_, Nat.le_refl _, Nat.le_refl _, ?_, ?_, fun a c9 h9 => ⟨c9, h9, rfl, rfl, fun _ _ => rfl⟩⟩
    · obtain ⟨t, ht, -⟩ := State.frames_cons hr
      show T.setVm s.vm = { ((T.setVm s.vm).setFrames (.invoking m args :: below)).setFrames (T.setVm s.vm).frames with heap := T.heap, slotsUsed := T.slotsUsed }
      rw [State.setFrames_setFrames, State.setFrames_self ht]
      rfl
    · show T.slotsUsed = T.slotsUsed + ((T.heap.toList.drop T.heap.size).map (·.slots.size)).sum
      rw [List.drop_eq_nil_of_le (Nat.le_of_eq Array.length_toList)]
      rfl
    · show ((T.heap.toList.drop T.heap.size).map (·.slots.size)).sum ≤ 0
      rw [List.drop_eq_nil_of_le (Nat.le_of_eq Array.length_toList)]
      exact Nat.le_refl _
/-- 'throw new E()': new; dup; invokespecial; athrow -/
theorem vx_throw0 {cc : ByteArray} {pc : Nat} (hexec : p.tables.exec = Jvm.exec) (hb : c.code = cc) (hl : l.stackTraces = false) {own cls : String} {names : List String} {ik ic mc ms : Nat} {A : Nat → Prop}
    (hown : s.vm.findClass own = some m.cls) (hcls : Bundle.fit cls = true) (hnames : ∀ n ∈ names, Bundle.fit n = true)
    (hk : (Cond.classLink own ik cls).before args s = true) (hini : (Cond.initialized cls).before args s = true) (hat : ∀ w ∈ vx_at0 own ic cls names, w.before args s = true)
    (hgood : ∀ w ∈ Cond.classLink own ik cls :: Cond.initialized cls :: vx_at0 own ic cls names, vx_ot w = true)
    (hU : vx_Zq Bundle.tN "UNASSIGNED_STACK" Bundle.steD A s s.heap) (hN : vx_Zq Bundle.tN "SUPPRESSED_SENTINEL" Bundle.listD A s s.heap) (hS : va_S A s.heap H locs) (hsize : ls.size = c.maxLocals)
    (d0 : decode cc pc = .ok (.new ik, 3)) (d3 : decode cc (pc + 3) = .ok (.dup, 1)) (d4 : decode cc (pc + 4) = .ok (.invokespecial ic, 3)) (d7 : decode cc (pc + 7) = .ok (.athrow, 1))
    (hout : ∀ x ∈ c.exceptionTable.toList, covers x (pc + 7) = false)
    (hRframes : names.length + 3 < R.frames) (hRlocals : (rest.map fun v => v.category).sum + (13 * (names.length + 1) + 42) ≤ R.locals) (hRcells : cells + 1 ≤ R.cells) (hRslots : slots + 6 ≤ R.slots) (hlocks : meth.locks = false)
    (hx : ∀ t : State, s.vm.Alike t.vm → H.size ≤ t.heap.size → (∀ q : Nat, q < H.size → t.heap[q]? = H[q]?) → XC cls s t)
    (hf : ∀ z ∈ locs, free z.base) (hc : cells + 1 ≤ mc) (hs : slots + 6 ≤ ms) :
    W p l e R s m args below meth c H locs cells slots (vx_MQ below Qc XC args s mc ms free) (F0 m pc ls rest) := by
  intro T hT X
  have htr : e.platform.stackTraces = false := (show e.platform.stackTraces = l.stackTraces by rw [X.admits.platform]).trans hl
  have Y := vx_rebase X (R' := { frames := R.frames, locals := R.locals, cells := 1, slots := 6 }) (Nat.le_refl _) (Nat.le_refl _) hRcells hRslots
  obtain ⟨s', hA⟩ : ∃ z, z = (T.setVm s.vm).setFrames (.invoking m args :: below) := ⟨_, rfl⟩
  rw [← hA] at Y
  have hvm : s'.vm = s.vm := by rw [hA]; rfl
  have hhp : s'.heap = H := by rw [hA]; exact hT
  have hW0 : s.WarmedH s'.vm := by rw [hvm]; exact State.WarmedH.refl s
  have hat' : ∀ w ∈ vx_at0 own ic cls names, w.before args s' = true := fun w hw => vx_ot_at hW0 hvm.symm (hgood w (List.mem_cons_of_mem _ (List.mem_cons_of_mem _ hw))) (hat w hw)
  have hk' : (Cond.classLink own ik cls).before args s' = true := vx_ot_at hW0 hvm.symm (hgood _ List.mem_cons_self) hk
  have hini' : (Cond.initialized cls).before args s' = true := vx_ot_at hW0 hvm.symm (hgood _ (List.mem_cons_of_mem _ List.mem_cons_self)) hini
  have hU' : vx_Zq Bundle.tN "UNASSIGNED_STACK" Bundle.steD A s' s'.heap := by rw [hhp]; exact vx_Zq.moved hW0.alike (hU.kept hS.2.1)
  have hN' : vx_Zq Bundle.tN "SUPPRESSED_SENTINEL" Bundle.listD A s' s'.heap := by rw [hhp]; exact vx_Zq.moved hW0.alike (hN.kept hS.2.1)
  have h : ∀ w ∈ Bundle.ownAtoms0 own ic cls names, w.before args s' = true := vx_own hat' (vx_isRefq hU'.1) (vx_isRefq hN'.1) hU'.2.word hN'.2.word
  have hown' : s'.vm.findClass own = some m.cls := by rw [hvm]; exact hown
  have hins : (Cond.instantiable cls 6).before args s' = true := h _ (by simp [Bundle.ownAtoms0])
  obtain ⟨vm₁, cX, kX, hfX, hkX, -, -, X₁, st1⟩ := Y.newCold hexec (own := own) (C := cls) (index := ik) (n := 6) hown' hk' hins hini'
    (g := F0 m pc ls rest) rfl (by rw [hb]; exact d0) (Nat.le_refl _) (Nat.le_refl _)
  generalize hT1 : (T.setVm vm₁).pushCell { cls := cX, slots := kX.instanceTypes.map defaultValue, vm := .none } = T1 at X₁ st1
  have hcat : (Value.ref T.heap.size).category = 1 := rfl
  have hcellA : T1.heap[T.heap.size]? = some (freshCell cX kX) := by rw [← hT1]; exact State.heap_pushCell_size _ _
  have d3' : decode c.code (pc + 3) = .ok (.dup, 1) := by rw [hb]; exact d3
  obtain ⟨U, hsteps, hrun, hend, hW, hsame, ce, hce, hO⟩ := X₁.ctorThrow0 hexec htr (own := own) (cls := cls) (names := names) (ic := ic) hown' hcls hnames h (fun x hx => nomatch hx) hfX hkX hcellA (by rw [hhp, hT]; exact Nat.le_refl _)
    (g := { method := m, pc := pc + 4, locals := ls, stack := .ref T.heap.size :: .ref T.heap.size :: rest, locked := none }) rfl hsize rfl rfl (rest := rest) rfl
    (by rw [hb]; exact d4) (by rw [hb]; exact d7) hout hRframes (by simp only [List.map_cons, List.sum_cons, hcat]; omega) hlocks
  obtain ⟨f1, f2⟩ := vx_frame hsame
  rw [hhp] at f1 f2
  have hWs : s.WarmedH U.vm := State.WarmedH.trans hW0 hW
  have hcl : s.vm.findClass cls = some ce.cls := by
    have h9 := hO.cls
    rw [hvm] at h9
    exact h9
  have hall : s.sameButNew ({ U with vm := s.vm } : State) locs mc ms := by
    subst hA
    obtain ⟨e1, e2⟩ := hsame
    rw [State.setFrames_setFrames] at e1
    have h2 : (T.setVm s.vm).sameButNew ({ U with vm := s.vm } : State) [] (0 + 1) (0 + 6) := ⟨e1, e2⟩
    have h3 := X.same.trans h2
    rw [List.append_nil] at h3
    exact h3.mono hc hs
  refine ⟨U, ?_, .threw T.heap.size, hrun, hend, Or.inr ⟨T.heap.size, rfl, cls, ce, locs, hx U hWs.alike f1 (fun q hq => f2 q hq (fun z hz => nomatch hz)), hce, hO.vm, hcl, hWs, hall, hf⟩⟩
  refine st1 _ ?_
  show Steps p.tables e below (T1.setTop { method := m, pc := pc + 3, locals := ls, stack := .ref T.heap.size :: rest, locked := none }) _
  jvm_step X₁.here [X₁.here.top, hexec, d3', Value.category]
  exact hsteps
/-- 'throw new E("text")': new; dup; ldc; invokespecial; athrow -/
theorem vx_throwS {cc : ByteArray} {pc : Nat} (hexec : p.tables.exec = Jvm.exec) (hb : c.code = cc) (hl : l.stackTraces = false) {own cls text : String} {names : List String} {ik is ic mc ms sa : Nat} {A : Nat → Prop}
    (hown : s.vm.findClass own = some m.cls) (hcls : Bundle.fit cls = true) (hnames : ∀ n ∈ names, Bundle.fit n = true)
    (hk : (Cond.classLink own ik cls).before args s = true) (hini : (Cond.initialized cls).before args s = true) (hstr : vk_R own is text sa s) (hat : ∀ w ∈ vx_atS own ic cls names, w.before args s = true)
    (hgood : ∀ w ∈ Cond.classLink own ik cls :: Cond.initialized cls :: vx_atS own ic cls names, vx_ot w = true)
    (hU : vx_Zq Bundle.tN "UNASSIGNED_STACK" Bundle.steD A s s.heap) (hN : vx_Zq Bundle.tN "SUPPRESSED_SENTINEL" Bundle.listD A s s.heap) (hS : va_S A s.heap H locs) (hsize : ls.size = c.maxLocals)
    (d0 : decode cc pc = .ok (.new ik, 3)) (d3 : decode cc (pc + 3) = .ok (.dup, 1)) (d4 : decode cc (pc + 4) = .ok (.ldc is, 2)) (d6 : decode cc (pc + 6) = .ok (.invokespecial ic, 3)) (d9 : decode cc (pc + 9) = .ok (.athrow, 1))
    (hout : ∀ x ∈ c.exceptionTable.toList, covers x (pc + 9) = false)
    (hRframes : names.length + 3 < R.frames) (hRlocals : (rest.map fun v => v.category).sum + (13 * (names.length + 1) + 43) ≤ R.locals) (hRcells : cells + 1 ≤ R.cells) (hRslots : slots + 6 ≤ R.slots) (hlocks : meth.locks = false)
    (hx : ∀ t : State, s.vm.Alike t.vm → H.size ≤ t.heap.size → (∀ q : Nat, q < H.size → t.heap[q]? = H[q]?) → XC cls s t)
    (hf : ∀ z ∈ locs, free z.base) (hc : cells + 1 ≤ mc) (hs : slots + 6 ≤ ms) :
    W p l e R s m args below meth c H locs cells slots (vx_MQ below Qc XC args s mc ms free) (F0 m pc ls rest) := by
  intro T hT X
  have htr : e.platform.stackTraces = false := (show e.platform.stackTraces = l.stackTraces by rw [X.admits.platform]).trans hl
  have Y := vx_rebase X (R' := { frames := R.frames, locals := R.locals, cells := 1, slots := 6 }) (Nat.le_refl _) (Nat.le_refl _) hRcells hRslots
  obtain ⟨s', hA⟩ : ∃ z, z = (T.setVm s.vm).setFrames (.invoking m args :: below) := ⟨_, rfl⟩
  rw [← hA] at Y
  have hvm : s'.vm = s.vm := by rw [hA]; rfl
  have hhp : s'.heap = H := by rw [hA]; exact hT
  have hW0 : s.WarmedH s'.vm := by rw [hvm]; exact State.WarmedH.refl s
  have hat' : ∀ w ∈ vx_atS own ic cls names, w.before args s' = true := fun w hw => vx_ot_at hW0 hvm.symm (hgood w (List.mem_cons_of_mem _ (List.mem_cons_of_mem _ hw))) (hat w hw)
  have hk' : (Cond.classLink own ik cls).before args s' = true := vx_ot_at hW0 hvm.symm (hgood _ List.mem_cons_self) hk
  have hini' : (Cond.initialized cls).before args s' = true := vx_ot_at hW0 hvm.symm (hgood _ (List.mem_cons_of_mem _ List.mem_cons_self)) hini
  have hU' : vx_Zq Bundle.tN "UNASSIGNED_STACK" Bundle.steD A s' s'.heap := by rw [hhp]; exact vx_Zq.moved hW0.alike (hU.kept hS.2.1)
  have hN' : vx_Zq Bundle.tN "SUPPRESSED_SENTINEL" Bundle.listD A s' s'.heap := by rw [hhp]; exact vx_Zq.moved hW0.alike (hN.kept hS.2.1)
  have h : ∀ w ∈ Bundle.ownAtoms own ic cls names, w.before args s' = true := vx_own hat' (vx_isRefq hU'.1) (vx_isRefq hN'.1) hU'.2.word hN'.2.word
  have hown' : s'.vm.findClass own = some m.cls := by rw [hvm]; exact hown
  have hins : (Cond.instantiable cls 6).before args s' = true := h _ (by simp [Bundle.ownAtoms])
  obtain ⟨vm₁, cX, kX, hfX, hkX, -, -, X₁, st1⟩ := Y.newCold hexec (own := own) (C := cls) (index := ik) (n := 6) hown' hk' hins hini'
    (g := F0 m pc ls rest) rfl (by rw [hb]; exact d0) (Nat.le_refl _) (Nat.le_refl _)
  generalize hT1 : (T.setVm vm₁).pushCell { cls := cX, slots := kX.instanceTypes.map defaultValue, vm := .none } = T1 at X₁ st1
  have hcat : (Value.ref T.heap.size).category = 1 := rfl
  have hcellA : T1.heap[T.heap.size]? = some (freshCell cX kX) := by rw [← hT1]; exact State.heap_pushCell_size _ _
  have d3' : decode c.code (pc + 3) = .ok (.dup, 1) := by rw [hb]; exact d3
  have d4' : decode c.code (pc + 4) = .ok (.ldc is, 2) := by rw [hb]; exact d4
  have hstr' : vk_R own is text sa s' := vk_R.warm hW0 hstr
  obtain ⟨U, hsteps, hrun, hend, hW, hsame, ce, hce, hO⟩ := X₁.ctorThrowS hexec htr (own := own) (cls := cls) (names := names) (ic := ic) hown' hcls hnames h (fun x hx => nomatch hx) hfX hkX hcellA (by rw [hhp, hT]; exact Nat.le_refl _) (msg := .ref sa) rfl
    (g := { method := m, pc := pc + 6, locals := ls, stack := .ref sa :: .ref T.heap.size :: .ref T.heap.size :: rest, locked := none }) rfl hsize rfl rfl (rest := rest) rfl
    (by rw [hb]; exact d6) (by rw [hb]; exact d9) hout hRframes (by simp only [List.map_cons, List.sum_cons, hcat]; omega) hlocks
  obtain ⟨f1, f2⟩ := vx_frame hsame
  rw [hhp] at f1 f2
  have hWs : s.WarmedH U.vm := State.WarmedH.trans hW0 hW
  have hcl : s.vm.findClass cls = some ce.cls := by
    have h9 := hO.cls
    rw [hvm] at h9
    exact h9
  have hall : s.sameButNew ({ U with vm := s.vm } : State) locs mc ms := by
    subst hA
    obtain ⟨e1, e2⟩ := hsame
    rw [State.setFrames_setFrames] at e1
    have h2 : (T.setVm s.vm).sameButNew ({ U with vm := s.vm } : State) [] (0 + 1) (0 + 6) := ⟨e1, e2⟩
    have h3 := X.same.trans h2
    rw [List.append_nil] at h3
    exact h3.mono hc hs
  refine ⟨U, ?_, .threw T.heap.size, hrun, hend, Or.inr ⟨T.heap.size, rfl, cls, ce, locs, hx U hWs.alike f1 (fun q hq => f2 q hq (fun z hz => nomatch hz)), hce, hO.vm, hcl, hWs, hall, hf⟩⟩
  refine st1 _ ?_
  show Steps p.tables e below (T1.setTop { method := m, pc := pc + 3, locals := ls, stack := .ref T.heap.size :: rest, locked := none }) _
  jvm_step X₁.here [X₁.here.top, hexec, d3', Value.category]
  exact X₁.ldcString hexec (own := own) (text := text) (index := is) (a := sa) hown' hstr'.1 hstr'.2
    (g := { method := m, pc := pc + 4, locals := ls, stack := .ref T.heap.size :: .ref T.heap.size :: rest, locked := none }) rfl d4' _ hsteps
/-- 'throw new E("text")', the text by a wide index -/
theorem vx_throwSW {cc : ByteArray} {pc : Nat} (hexec : p.tables.exec = Jvm.exec) (hb : c.code = cc) (hl : l.stackTraces = false) {own cls text : String} {names : List String} {ik is ic mc ms sa : Nat} {A : Nat → Prop}
    (hown : s.vm.findClass own = some m.cls) (hcls : Bundle.fit cls = true) (hnames : ∀ n ∈ names, Bundle.fit n = true)
    (hk : (Cond.classLink own ik cls).before args s = true) (hini : (Cond.initialized cls).before args s = true) (hstr : vk_R own is text sa s) (hat : ∀ w ∈ vx_atS own ic cls names, w.before args s = true)
    (hgood : ∀ w ∈ Cond.classLink own ik cls :: Cond.initialized cls :: vx_atS own ic cls names, vx_ot w = true)
    (hU : vx_Zq Bundle.tN "UNASSIGNED_STACK" Bundle.steD A s s.heap) (hN : vx_Zq Bundle.tN "SUPPRESSED_SENTINEL" Bundle.listD A s s.heap) (hS : va_S A s.heap H locs) (hsize : ls.size = c.maxLocals)
    (d0 : decode cc pc = .ok (.new ik, 3)) (d3 : decode cc (pc + 3) = .ok (.dup, 1)) (d4 : decode cc (pc + 4) = .ok (.ldc_w is, 3)) (d7 : decode cc (pc + 7) = .ok (.invokespecial ic, 3)) (d10 : decode cc (pc + 10) = .ok (.athrow, 1))
    (hout : ∀ x ∈ c.exceptionTable.toList, covers x (pc + 10) = false)
    (hRframes : names.length + 3 < R.frames) (hRlocals : (rest.map fun v => v.category).sum + (13 * (names.length + 1) + 43) ≤ R.locals) (hRcells : cells + 1 ≤ R.cells) (hRslots : slots + 6 ≤ R.slots) (hlocks : meth.locks = false)
    (hx : ∀ t : State, s.vm.Alike t.vm → H.size ≤ t.heap.size → (∀ q : Nat, q < H.size → t.heap[q]? = H[q]?) → XC cls s t)
    (hf : ∀ z ∈ locs, free z.base) (hc : cells + 1 ≤ mc) (hs : slots + 6 ≤ ms) :
    W p l e R s m args below meth c H locs cells slots (vx_MQ below Qc XC args s mc ms free) (F0 m pc ls rest) := by
  intro T hT X
  have htr : e.platform.stackTraces = false := (show e.platform.stackTraces = l.stackTraces by rw [X.admits.platform]).trans hl
  have Y := vx_rebase X (R' := { frames := R.frames, locals := R.locals, cells := 1, slots := 6 }) (Nat.le_refl _) (Nat.le_refl _) hRcells hRslots
  obtain ⟨s', hA⟩ : ∃ z, z = (T.setVm s.vm).setFrames (.invoking m args :: below) := ⟨_, rfl⟩
  rw [← hA] at Y
  have hvm : s'.vm = s.vm := by rw [hA]; rfl
  have hhp : s'.heap = H := by rw [hA]; exact hT
  have hW0 : s.WarmedH s'.vm := by rw [hvm]; exact State.WarmedH.refl s
  have hat' : ∀ w ∈ vx_atS own ic cls names, w.before args s' = true := fun w hw => vx_ot_at hW0 hvm.symm (hgood w (List.mem_cons_of_mem _ (List.mem_cons_of_mem _ hw))) (hat w hw)
  have hk' : (Cond.classLink own ik cls).before args s' = true := vx_ot_at hW0 hvm.symm (hgood _ List.mem_cons_self) hk
  have hini' : (Cond.initialized cls).before args s' = true := vx_ot_at hW0 hvm.symm (hgood _ (List.mem_cons_of_mem _ List.mem_cons_self)) hini
  have hU' : vx_Zq Bundle.tN "UNASSIGNED_STACK" Bundle.steD A s' s'.heap := by rw [hhp]; exact vx_Zq.moved hW0.alike (hU.kept hS.2.1)
  have hN' : vx_Zq Bundle.tN "SUPPRESSED_SENTINEL" Bundle.listD A s' s'.heap := by rw [hhp]; exact vx_Zq.moved hW0.alike (hN.kept hS.2.1)
  have h : ∀ w ∈ Bundle.ownAtoms own ic cls names, w.before args s' = true := vx_own hat' (vx_isRefq hU'.1) (vx_isRefq hN'.1) hU'.2.word hN'.2.word
  have hown' : s'.vm.findClass own = some m.cls := by rw [hvm]; exact hown
  have hins : (Cond.instantiable cls 6).before args s' = true := h _ (by simp [Bundle.ownAtoms])
  obtain ⟨vm₁, cX, kX, hfX, hkX, -, -, X₁, st1⟩ := Y.newCold hexec (own := own) (C := cls) (index := ik) (n := 6) hown' hk' hins hini'
    (g := F0 m pc ls rest) rfl (by rw [hb]; exact d0) (Nat.le_refl _) (Nat.le_refl _)
  generalize hT1 : (T.setVm vm₁).pushCell { cls := cX, slots := kX.instanceTypes.map defaultValue, vm := .none } = T1 at X₁ st1
  have hcat : (Value.ref T.heap.size).category = 1 := rfl
  have hcellA : T1.heap[T.heap.size]? = some (freshCell cX kX) := by rw [← hT1]; exact State.heap_pushCell_size _ _
  have d3' : decode c.code (pc + 3) = .ok (.dup, 1) := by rw [hb]; exact d3
  have d4' : decode c.code (pc + 4) = .ok (.ldc_w is, 3) := by rw [hb]; exact d4
  have hstr' : vk_R own is text sa s' := vk_R.warm hW0 hstr
  obtain ⟨U, hsteps, hrun, hend, hW, hsame, ce, hce, hO⟩ := X₁.ctorThrowS hexec htr (own := own) (cls := cls) (names := names) (ic := ic) hown' hcls hnames h (fun x hx => nomatch hx) hfX hkX hcellA (by rw [hhp, hT]; exact Nat.le_refl _) (msg := .ref sa) rfl
    (g := { method := m, pc := pc + 7, locals := ls, stack := .ref sa :: .ref T.heap.size :: .ref T.heap.size :: rest, locked := none }) rfl hsize rfl rfl (rest := rest) rfl
    (by rw [hb]; exact d7) (by rw [hb]; exact d10) hout hRframes (by simp only [List.map_cons, List.sum_cons, hcat]; omega) hlocks
  obtain ⟨f1, f2⟩ := vx_frame hsame
  rw [hhp] at f1 f2
  have hWs : s.WarmedH U.vm := State.WarmedH.trans hW0 hW
  have hcl : s.vm.findClass cls = some ce.cls := by
    have h9 := hO.cls
    rw [hvm] at h9
    exact h9
  have hall : s.sameButNew ({ U with vm := s.vm } : State) locs mc ms := by
    subst hA
    obtain ⟨e1, e2⟩ := hsame
    rw [State.setFrames_setFrames] at e1
    have h2 : (T.setVm s.vm).sameButNew ({ U with vm := s.vm } : State) [] (0 + 1) (0 + 6) := ⟨e1, e2⟩
    have h3 := X.same.trans h2
    rw [List.append_nil] at h3
    exact h3.mono hc hs
  refine ⟨U, ?_, .threw T.heap.size, hrun, hend, Or.inr ⟨T.heap.size, rfl, cls, ce, locs, hx U hWs.alike f1 (fun q hq => f2 q hq (fun z hz => nomatch hz)), hce, hO.vm, hcl, hWs, hall, hf⟩⟩
  refine st1 _ ?_
  show Steps p.tables e below (T1.setTop { method := m, pc := pc + 3, locals := ls, stack := .ref T.heap.size :: rest, locked := none }) _
  jvm_step X₁.here [X₁.here.top, hexec, d3', Value.category]
  exact X₁.ldcStringW hexec (own := own) (text := text) (index := is) (a := sa) hown' hstr'.1 hstr'.2
    (g := { method := m, pc := pc + 4, locals := ls, stack := .ref T.heap.size :: .ref T.heap.size :: rest, locked := none }) rfl d4' _ hsteps
end Ends
section Bodies
variable {l : Launch}
theorem vx_ofW {y : MethodName} {ws ws' : List Cond} {rm : Room} {Pc : Array Value → State → Prop} {Qc : Array Value → State → Outcome → State → Prop} {XC : String → State → State → Prop} {mc ms : Nat} {free : Addr → Prop} {cc : ByteArray} {maxL : Nat} {ret : Option FieldType}
    (hy : plainName y.cls = true) (hw : ws = Cond.code y cc maxL ret :: ws')
    (body : ∀ p e s m args below meth c s₁, BodyLoose p l y (headSpec ws rm) cc maxL ret e s m args below meth c s₁ → c.maxLocals = maxL → (∀ x ∈ c.exceptionTable.toList, False) → Pc args s →
      W p l e (headSpec ws rm).room s m args below meth c s.heap [] 0 0 (vx_MQ below Qc XC args s mc ms free) (entryFrame m args maxL)) : vx_Met l y ws rm Pc Qc XC mc ms free := by
  refine MetFree.of_bodyS (code := cc) (maxLocals := maxL) (ret := ret) hy ?_ ?_
  · intro args s m h hn
    obtain ⟨meth, c, h1, h2, h3, h4, h5, h6, -, -⟩ := Cond.code_spec hn (atoms_spec (ws := ws) h _ (by rw [hw]; exact List.mem_cons_self))
    exact ⟨meth, c, h1, h2, h3, h4, h5, h6⟩
  · intro p e s m args below meth c s₁ B hml hP _
    have hh0 : s₁.heap = s.heap := by rw [B.state]; rfl
    have ht : ∀ x ∈ c.exceptionTable.toList, False := by
      obtain ⟨meth9, c9, h1, h2, -, -, -, -, h7, -⟩ := Cond.code_spec B.named (atoms_spec (ws := ws) B.pre _ (by rw [hw]; exact List.mem_cons_self))
      cases Option.some.inj (h1.symm.trans B.method)
      cases Option.some.inj (h2.symm.trans (Stand.of_body B).code)
      intro x hx
      rw [Array.isEmpty_iff.mp h7] at hx
      cases hx
    obtain ⟨t, a1, o, b1, b2, b3⟩ := body p e s m args below meth c s₁ B hml ht hP s₁ hh0 (Stand.of_body B)
    exact ⟨t, o, a1, b1, b2, b3⟩
/-- the table of a body with handlers -/
theorem vx_table {p : Program} {x y : MethodName} {S : Spec} {cc bytes : ByteArray} {maxL maxL' : Nat} {ret ret' : Option FieldType} {e : Env} {s s₁ : State} {m : MethodId} {args : Array Value} {below : List Frame} {meth : Method} {c : Code} {hh : List (Nat × Nat × Nat × Nat)}
    (B : BodyLoose p l y S cc maxL ret e s m args below meth c s₁) (h : (Cond.codeWith y bytes maxL' ret' hh).before args s = true) : c.exceptionTable.toList = tableOf hh := by
  obtain ⟨m9, meth9, c9, hn9, h1, h2, -, -, h6, -⟩ := Cond.codeWith_spec h
  cases Option.some.inj (hn9.symm.trans B.named)
  cases Option.some.inj (h1.symm.trans B.method)
  cases Option.some.inj (h2.symm.trans (Stand.of_body B).code)
  rw [← h6, table_eq]
end Bodies
end VXA
/-! ===== END ===== -/
/-! ===== BEGIN a static call of a method with an exception table ===== -/
section VXS
variable {p : Program} {l : Launch} {e : Env} {R : Room} {s : State} {m : MethodId} {args : Array Value} {below : List Frame} {meth : Method} {c : Code} {T : State} {H : Heap} {locs : List Loc} {cells slots : Nat}
abbrev vx_CSW (R : Room) (s : State) (args : Array Value) (own : String) (index : Nat) (y : MethodName) (bytes : ByteArray) (maxL : Nat) (ret : Option FieldType) (hh : List (Nat × Nat × Nat × Nat)) (ws : List Cond) (rm : Room) (mc ms n : Nat) : Prop :=
  (rm.cells = mc ∧ rm.slots = ms ∧ rm.frames + 1 ≤ R.frames ∧ 8 + (maxL + 11) + rm.locals ≤ R.locals ∧ (∀ w ∈ ws, ∀ (a' : Array Value) (U : State), s.WarmedH U.vm → w.before a' U = true) ∧ Cond.codeWith y bytes maxL ret hh ∈ ws) ∧
  (Cond.codeWith y bytes maxL ret hh).before args s = true ∧ (Cond.initialized y.cls).before args s = true ∧ (y.cls ≠ "java/lang/invoke/MethodHandle" ∧ y.cls ≠ "java/lang/invoke/VarHandle") ∧
  (∀ sig, parseMethodDescriptor y.desc = some sig → n = sig.parameters.length) ∧ (Cond.methodLink own index y).before args s = true ∧ (Cond.static y).before args s = true
theorem vx_cwSW {own : String} {index maxL mc ms : Nat} {y : MethodName} {bytes : ByteArray} {ret : Option FieldType} {hh : List (Nat × Nat × Nat × Nat)} {Ts ws ws' : List Cond} {rm : Room} (n : Nat) (ht : ∀ w ∈ Ts, w.before args s = true) (hT : GoodIn Ts (va_wsS own index y ws)) (hw : ws = Cond.codeWith y bytes maxL ret hh :: ws') (hrc : rm.cells = mc) (hrs : rm.slots = ms)
    (hd : y.cls ≠ "java/lang/invoke/MethodHandle" ∧ y.cls ≠ "java/lang/invoke/VarHandle" ∧ (parseMethodDescriptor y.desc).map (fun d => d.parameters.length) = some n) (hR : rm.frames + 1 ≤ R.frames ∧ 8 + (maxL + 11) + rm.locals ≤ R.locals) :
    vx_CSW R s args own index y bytes maxL ret hh ws rm mc ms n := by
  have ok : ∀ w ∈ va_wsS own index y ws, w.before args s = true := fun w h => ht w (hT w h).1
  have hG : GoodIn Ts ws := fun w h => hT w (by unfold va_wsS; exact List.mem_append_right _ h)
  have hc : Cond.codeWith y bytes maxL ret hh ∈ ws := by rw [hw]; exact List.mem_cons_self
  refine ⟨⟨hrc, hrs, hR.1, hR.2, pay_in ht hG, hc⟩, ht _ (hG _ hc).1, ok _ (by simp [va_wsS]), ⟨hd.1, hd.2.1⟩, fun sig h => ?_, ok _ (by simp [va_wsS]), ok _ (by simp [va_wsS])⟩
  have h2 := hd.2.2
  rw [h] at h2
  exact (Option.some.inj h2).symm
theorem vx_callSW (X : Stand p l e R s m args below meth c T locs cells slots) (hexec : p.tables.exec = Jvm.exec) {own : String} {index : Nat} {y : MethodName} {bytes : ByteArray} {maxL : Nat} {ret : Option FieldType} {hh : List (Nat × Nat × Nat × Nat)}
    (hown : s.vm.findClass own = some m.cls) (hlink : (Cond.methodLink own index y).before args s = true) (hstat : (Cond.static y).before args s = true) (hinit : (Cond.initialized y.cls).before args s = true)
    (hcode : (Cond.codeWith y bytes maxL ret hh).before args s = true) (hy : y.cls ≠ "java/lang/invoke/MethodHandle" ∧ y.cls ≠ "java/lang/invoke/VarHandle")
    {W9 : Nat} {Pre : Pt → Array Value → Prop} {Post : Pt → Array Value → Option Value → Pt → Prop} (hK : Back l R p e below s args y 3 W9 Pre Post)
    {g : JFrame} (hg : g.method = m) (hsize : g.locals.size = c.maxLocals) {argsL rest : List Value} (hlen : ∀ sig, parseMethodDescriptor y.desc = some sig → argsL.length = sig.parameters.length)
    (hstack : g.stack = argsL.reverse ++ rest) (hW : 2 * g.monitorRoom + (rest.map fun v => v.category).sum ≤ W9) (hdg : decode c.code g.pc = .ok (.invokestatic index, 3))
    (hpre : ∀ vm₁, s.WarmedH vm₁ → Pre ⟨T.setVm vm₁, locs, cells, slots⟩ argsL.toArray) :
    ∃ (v : Option Value) (vm₁ : Vm) (B : Pt), s.WarmedH vm₁ ∧ Stand p l e R s m args below meth c B.U B.locs B.cells B.slots ∧ Post ⟨T.setVm vm₁, locs, cells, slots⟩ argsL.toArray v B ∧
      ∀ target, Steps p.tables e below (B.U.setTop { g with pc := g.pc + 3, stack := v.toList ++ rest }) target → Steps p.tables e below (T.setTop g) target := by
  obtain ⟨mk, methM, cM, hnamed, hmethM, -, -, -, -, -, -, hsigM⟩ := Cond.codeWith_spec hcode
  have hstatic : methM.isStatic = true := Cond.static_spec hnamed hmethM hstat
  obtain ⟨kP, hkP, -⟩ := className_of_methodNamed hnamed
  have hinitP : kP.init = .initialized := Cond.initialized_spec (findClass_of_methodNamed hnamed) hkP hinit
  obtain ⟨vm₁, X₁, hstep₁⟩ := X.invokestatic hexec hown hlink hnamed hmethM hstatic hkP hinitP hy (g := g) hg (argsL := argsL) (rest := rest) (hlen _ hsigM) hstack hdg
  obtain ⟨v, B, X', hpost, hsteps⟩ := hK m meth c ⟨T.setVm vm₁, locs, cells, slots⟩ { g with stack := rest } (.invokestatic index) mk argsL.toArray X₁ hg hsize hdg hW (X₁.named hnamed) (hpre vm₁ X₁.warmed)
  exact ⟨v, vm₁, B, X₁.warmed, X', hpost, fun target h => hstep₁ _ fun acts => by rw [doInvoke_state]; exact hsteps.trans h⟩
theorem vx_runSW {y : MethodName} {bytes cc : ByteArray} {maxL nL mc ms n index : Nat} {ret : Option FieldType} {hh : List (Nat × Nat × Nat × Nat)} {ws : List Cond} {rm : Room} {Pc : Array Value → State → Prop} {Qc : Array Value → State → Outcome → State → Prop} {free : Addr → Prop} {Ts : List Cond} {own : String} {As rest : List Value} {g : JFrame}
    (S : CallFix p m c cc nL s args Ts own) (hM : Met l y ws rm Pc Qc mc ms free) (cw : vx_CSW R s args own index y bytes maxL ret hh ws rm mc ms n) (hp : PreS s H Pc As)
    (hg : g.method = m) (hn : As.length = n) (hsize : g.locals.size = nL) (hstack : g.stack = As.reverse ++ rest) (hW : 2 * g.monitorRoom + (rest.map fun v => v.category).sum ≤ 8) (hdg : decode cc g.pc = .ok (.invokestatic index, 3)) (hf : cells + mc ≤ R.cells ∧ slots + ms ≤ R.slots) :
    va_Run p l e R s m args below meth c H locs cells slots mc ms g rest (Qc As.toArray) (free) := by
  obtain ⟨⟨hrc, hrs, hfr, hlo, hws, hcw⟩, hcode, hini, hy, hlen, hl, hstt⟩ := cw
  have hK : Back l R p e below s args y 3 8 (PreOf R mc ms Pc) (PostOf Qc mc ms free) := va_backW (hh := hh) (bytes := bytes) (maxL := maxL) (ret := ret) hM hp.1 hrc hrs hfr hlo hws hcw (fun a' U hW => word_at hW (Or.inl (by first | rfl | simp [Cond.onTables, Cond.keeps, Cond.steady])) hini)
  obtain ⟨hx, hb, hml, ho, -⟩ := S
  intro T hT X
  obtain ⟨v, vm₁, ⟨U', l2, c2, s2⟩, hW₁, X', ⟨g', mk, t, L, e1, e2, hq, h1, hL, h2, h3⟩, st⟩ := vx_callSW X hx (hh := hh) (bytes := bytes) (maxL := maxL) (ret := ret) ho hl hstt hini hcode hy hK hg (hsize.trans hml.symm) (argsL := As) (rest := rest) (fun sig h => hn.trans (hlen sig h)) hstack hW (by rw [hb]; exact hdg)
    (fun vm₁ hW₁ => ⟨hf.1, hf.2, hp.2 (T.setVm vm₁) hT hW₁⟩)
  dsimp only [Pt.U, Pt.locs, Pt.cells, Pt.slots] at X' e1 e2 h1 h2 h3 st
  subst h1; subst h2; subst h3
  exact ⟨v, (T.setVm vm₁).calling g' mk As.toArray, t, U', L, hT, X', hL, e1, e2, hq, st⟩
/-- not caught here, past rows that name other classes: it goes on to the caller -/
theorem vx_outP {p : Program} {l : Launch} {e : Env} {R : Room} {s : State} {m : MethodId} {args : Array Value} {below : List Frame} {meth : Method} {c : Code} {H : Heap} {locs : List Loc} {cells slots : Nat} {free : Addr → Prop} {ls : Array Slot} {rest : List Value} {Qc : Array Value → State → Outcome → State → Prop} {XC : String → State → State → Prop}
    {pc : Nat} {own E : String} {ce : Cell} {q : Addr} {mc ms : Nat} (hown : s.vm.findClass own = some m.cls) (hlocks : meth.locks = false)
    (hpass : ∀ z ∈ c.exceptionTable.toList, covers z pc = false ∨ (z.catchType ≠ 0 ∧ ∃ nm : String, (Cond.classLink own z.catchType nm).before args s = true ∧ va_Nc E nm s)) (hcell : H[q]? = some ce) (hv : ce.vm = .none) (hcl : s.vm.findClass E = some ce.cls)
    (hx : ∀ t : State, t.heap = H → s.vm.Alike t.vm → XC E s t) (hf : ∀ z ∈ locs, free z.base) (hc : cells ≤ mc) (hs : slots ≤ ms) :
    vx_W p l e R s m args below meth c H locs cells slots (vx_MQ below Qc XC args s mc ms free) (F0 m pc ls rest) q := by
  intro T hT X
  have hpl : e.platform.magicAccessors = ({} : Platform).magicAccessors := by rw [X.admits.platform]
  obtain ⟨vm', hW', X', st⟩ := X.outThrough hlocks q (g := F0 m pc ls rest) rfl rfl rfl (cell := ce) (by rw [hT]; exact hcell) (by rw [hv]; rfl)
    (by obtain ⟨k9, h9, -⟩ := Vm.findClass_spec hcl; exact ⟨k9, h9⟩) (fun z hz => by
      rcases hpass z hz with h | ⟨hz0, nm, hl1, hn1⟩
      · exact Or.inl h
      · obtain ⟨c6, hc6, hcl6⟩ := Cond.classLink_spec hown hl1 e.platform hpl
        obtain ⟨a8, b8, h1, h2, h3⟩ := hn1
        cases Option.some.inj (h1.symm.trans hcl)
        cases Option.some.inj (h2.symm.trans hc6)
        exact Or.inr ⟨hz0, _, hcl6, h3⟩)
  obtain ⟨g₀, hfr⟩ := X'.frames_eq
  have hcell9 : ((T.setVm vm').setFrames (.throwing q :: below)).heap[q]? = some ce := by
    show T.heap[q]? = some ce
    rw [hT]; exact hcell
  have hend : Ended ((T.setVm vm').setFrames (.throwing q :: below)) below (.threw q) := State.frames_setFrames _ (State.cur_lt_of_frames hfr)
  refine ⟨(T.setVm vm').setFrames (.throwing q :: below), ?_, .threw q, X'.here.running, hend, Or.inr ⟨q, rfl, E, ce, locs, hx _ hT (X'.ends _).1.alike, hcell9, hv, hcl, (X'.ends _).1, (X'.ends _).2.mono hc hs, hf⟩⟩
  rw [X.pushThrowing_eq]
  exact st
/-- a thing of a world lies in the heap -/
theorem vx_lt {D : va_G} {cl : List vw_C} {ws : va_W} {H1 : Heap} (h : va_P D cl ws H1) {k : Nat} {q : Nat × va_E} (hk : ws[k]? = some q) : q.1 < H1.size := (h k q hk).lt
end VXS
/-! ===== END ===== -/
/-! ===== BEGIN methods with a table of their own: called by a name, returning or throwing ===== -/
section VXH
/-! vx_backW, vx_callVX, vx_callSX, vx_callVW, vx_runVW, vx_runVX, vx_runSX, vx_ofWH follow the same proofs as their sisters above (Free/Laws.lean, Shelf42/LK1.lean); vx_outP calls Shelf42/NT130.lean (outThrough). -/
section
variable {l : Launch} {R : Room} {p : Program} {e : Env} {below : List Frame} {s : State} {sargs : Array Value} {y : MethodName} {len W9 : Nat}
theorem vx_backW {ws : List Cond} {rm : Room} {Pc : Array Value → State → Prop} {Qc : Array Value → State → Outcome → State → Prop} {XC : String → State → State → Prop} {mc ms : Nat} {free : Addr → Prop} {bytes : ByteArray} {maxL : Nat} {ret : Option FieldType} {hh : List (Nat × Nat × Nat × Nat)}
    (hM : vx_Met l y ws rm Pc Qc XC mc ms free) (hblind : FrameBlind Pc) (hrc : rm.cells = mc) (hrs : rm.slots = ms)
    (hframes : rm.frames + 1 ≤ R.frames) (hlocals : W9 + (maxL + 11) + rm.locals ≤ R.locals)
    (hws : ∀ w ∈ ws, ∀ a' U, s.WarmedH U.vm → w.before a' U = true) (hcode : Cond.codeWith y bytes maxL ret hh ∈ ws) (hinit : ∀ a' U, s.WarmedH U.vm → (Cond.initialized y.cls).before a' U = true) :
    vx_Back l R p e below s sargs y len W9 (PreOf R mc ms Pc) (PostOf Qc mc ms free) (vx_Post XC mc ms free) := by
  intro m meth c A g ig mk a X hg hsize hdg hW hn hp
  have h1 : (headSpec ws rm).pre.before a A.U = true := atoms_intro fun w hw => hws w hw _ _ X.warmed
  have h2 : (Cond.codeWith y bytes maxL ret hh).before a A.U = true := hws _ hcode _ _ X.warmed
  have h3 : (Cond.initialized y.cls).before a A.U = true := hinit _ _ X.warmed
  have h4 : A.cells + (headSpec ws rm).room.cells ≤ R.cells := by rw [show (headSpec ws rm).room.cells = mc from hrc]; exact hp.1
  have h5 : A.slots + (headSpec ws rm).room.slots ≤ R.slots := by rw [show (headSpec ws rm).room.slots = ms from hrs]; exact hp.2.1
  have hPc : Pc a (A.U.calling g mk a) := hblind _ _ _ _ hp.2.2
  obtain ⟨U, Ls, c0, s0⟩ := A
  dsimp only [Pt.U, Pt.locs, Pt.cells, Pt.slots] at h1 h2 h3 h4 h5 X hn hPc ⊢
  obtain ⟨m9, methY, cY, hn9, hmY, hcY, -, hlY, -⟩ := Cond.codeWith_spec h2
  cases Option.some.inj (hn9.symm.trans hn)
  obtain ⟨kY, hkY, -⟩ := className_of_methodNamed hn
  have hinitY : kY.init = .initialized := Cond.initialized_spec (findClass_of_methodNamed hn) hkY h3
  have h : At U g.method c below := by rw [hg]; exact X.here
  have hlocals9 : W9 + (maxL + 11) + (headSpec ws rm).room.locals ≤ R.locals := hlocals
  have happ : (headSpec ws rm).appliesLoose y e.platform (U.calling g mk a) = true :=
    Spec.appliesLoose_calling (g := g) h hdg hn hkY hinitY
      (X.room_calling (g := g) (R' := (headSpec ws rm).room) hsize hmY hcY hframes (by rw [hlY]; omega) h4 h5) h1
  obtain ⟨mid, hmid⟩ := h.above
  have hfr : (U.setTop g).frames = (.java g :: mid) ++ below := by rw [State.frames_setTop' g h.top, hmid]; rfl
  obtain ⟨o, s₂, hsteps, -, hend, hq⟩ := Steps.callFree hM p X.admits X.cas X.clock (acts := []) hfr happ hPc trivial
  have hq' : vx_Q Qc XC mc ms free a (U.calling g mk a) o s₂ := hq
  rw [State.frames_setTop' g h.top] at hend
  obtain ⟨g₀, hg0⟩ := Option.isSome_iff_exists.mp h.top
  obtain ⟨r, hr⟩ := State.topJava?_eq_some.mp hg0
  have hr' : (({ U with heap := s₂.heap, slotsUsed := s₂.slotsUsed } : State).setVm s₂.vm).frames = .java g₀ :: r := hr
  rcases hq' with ⟨hqc, L, hfe, hL⟩ | ⟨q, rfl, E, ce, L, hx, hce, hcv, hcl, hW₂, hsm, hL⟩
  · obtain ⟨⟨v, rfl⟩, hW₂, e2, q2, q3, q4, q5, q6⟩ := id hfe
    have e3 : s₂ = ({ (U.calling g mk a).setFrames s₂.frames with heap := s₂.heap, slotsUsed := s₂.slotsUsed } : State).setVm s₂.vm := by
      have : s₂ = ({ s₂ with vm := (U.calling g mk a).vm } : State).setVm s₂.vm := rfl
      rw [e2] at this
      exact this
    obtain ⟨c₂, i₂, len₂, hc₂, hd₂, hf₂⟩ := hend
    have hW' : U.WarmedH s₂.vm := hW₂
    have hcc : c₂ = c := by
      have h1 : s₂.code? g.method = U.code? g.method := by
        rw [State.code?_eq, State.code?_eq, hW'.alike.method?]
      exact Option.some.inj (hc₂.symm.trans (h1.trans h.code))
    subst hcc
    have hlen : len₂ = len := by rw [hdg] at hd₂; cases hd₂; rfl
    subst hlen
    have hs₂ : s₂ = (({ U with heap := s₂.heap, slotsUsed := s₂.slotsUsed } : State).setVm s₂.vm).setTop { g with pc := g.pc + len₂, stack := v.toList ++ g.stack } := by
      refine e3.trans ?_
      rw [hf₂, State.calling_eq h.top, State.setFrames_setFrames, State.setTop_of_frames _ hr', hr]
      rfl
    have hsame : U.sameButNew ({ U with heap := s₂.heap, slotsUsed := s₂.slotsUsed } : State) L mc ms := by
      refine ⟨?_, q2, q3, q4, q5, q6⟩
      obtain ⟨t, ht, -⟩ := State.frames_cons hr
      show ({ U with heap := s₂.heap, slotsUsed := s₂.slotsUsed } : State) = { U.setFrames U.frames with heap := s₂.heap, slotsUsed := s₂.slotsUsed }
      rw [State.setFrames_self ht]
    subst hg
    refine Or.inl ⟨v, ⟨(({ U with heap := s₂.heap, slotsUsed := s₂.slotsUsed } : State).setVm s₂.vm), Ls ++ L, c0 + mc, s0 + ms⟩,
      ⟨X.admits, X.cas, X.clock, X.frames, X.room, X.hears, X.method, X.code, (X.here.setHeapUsed s₂.heap s₂.slotsUsed).setVm hW'.alike, X.tail, State.WarmedH.trans X.warmed hW', X.limits, X.bytes, X.same.trans (hsame.setVm s.vm)⟩,
      ⟨g, mk, s₂, L, rfl, rfl, hqc, rfl, hL, rfl, rfl⟩, ?_⟩
    show Steps p.tables e below _ ((({ U with heap := s₂.heap, slotsUsed := s₂.slotsUsed } : State).setVm s₂.vm).setTop { g with pc := g.pc + len₂, stack := v.toList ++ g.stack })
    rw [← hs₂]
    exact hsteps
  · obtain ⟨e2, q2, q3, q4, q5, q6⟩ := id hsm
    have e3 : s₂ = ({ (U.calling g mk a).setFrames s₂.frames with heap := s₂.heap, slotsUsed := s₂.slotsUsed } : State).setVm s₂.vm := by
      have : s₂ = ({ s₂ with vm := (U.calling g mk a).vm } : State).setVm s₂.vm := rfl
      rw [e2] at this
      exact this
    have hf₂ : s₂.frames = .throwing q :: .java g :: U.frames.tail := hend
    have hW' : U.WarmedH s₂.vm := hW₂
    have hs₂ : s₂ = ((({ U with heap := s₂.heap, slotsUsed := s₂.slotsUsed } : State).setVm s₂.vm).setTop g).pushFrame (.throwing q) := by
      refine e3.trans ?_
      rw [hf₂, State.calling_eq h.top, State.setFrames_setFrames, State.pushFrame, State.frames_setTop _ hr', State.setTop_of_frames _ hr', State.setFrames_setFrames, hr]
      rfl
    have hsame : U.sameButNew ({ U with heap := s₂.heap, slotsUsed := s₂.slotsUsed } : State) L mc ms := by
      refine ⟨?_, q2, q3, q4, q5, q6⟩
      obtain ⟨t, ht, -⟩ := State.frames_cons hr
      show ({ U with heap := s₂.heap, slotsUsed := s₂.slotsUsed } : State) = { U.setFrames U.frames with heap := s₂.heap, slotsUsed := s₂.slotsUsed }
      rw [State.setFrames_self ht]
    subst hg
    refine Or.inr ⟨q, ⟨(({ U with heap := s₂.heap, slotsUsed := s₂.slotsUsed } : State).setVm s₂.vm), Ls ++ L, c0 + mc, s0 + ms⟩,
      ⟨X.admits, X.cas, X.clock, X.frames, X.room, X.hears, X.method, X.code, (X.here.setHeapUsed s₂.heap s₂.slotsUsed).setVm hW'.alike, X.tail, State.WarmedH.trans X.warmed hW', X.limits, X.bytes, X.same.trans (hsame.setVm s.vm)⟩,
      ⟨g, mk, s₂, L, E, ce, rfl, rfl, hx, hce, hcv, hcl, rfl, hL, rfl, rfl⟩, ?_⟩
    show Steps p.tables e below _ (((({ U with heap := s₂.heap, slotsUsed := s₂.slotsUsed } : State).setVm s₂.vm).setTop g).pushFrame (.throwing q))
    rw [← hs₂]
    exact hsteps
end
variable {p : Program} {l : Launch} {e : Env} {R : Room} {s : State} {m : MethodId} {args : Array Value} {below : List Frame} {meth : Method} {c : Code} {T : State} {H : Heap} {locs : List Loc} {cells slots : Nat}
theorem vx_callVX (X : Stand p l e R s m args below meth c T locs cells slots) (hexec : p.tables.exec = Jvm.exec) {own C : String} {index : Nat} {y : MethodName} {bytes : ByteArray} {maxL : Nat} {ret : Option FieldType} {hh : List (Nat × Nat × Nat × Nat)}
    (hown : s.vm.findClass own = some m.cls) (hlink : (Cond.methodLink own index y).before args s = true) (hinst : (Cond.instanceMethod y).before args s = true) (hsel : (Cond.selects C y y).before args s = true)
    (hcode : (Cond.codeWith y bytes maxL ret hh).before args s = true) (hy : y.cls ≠ "java/lang/invoke/MethodHandle" ∧ y.cls ≠ "java/lang/invoke/VarHandle")
    {W9 : Nat} {Pre : Pt → Array Value → Prop} {Post : Pt → Array Value → Option Value → Pt → Prop} {PostX : Pt → Array Value → Addr → Pt → Prop} (hK : vx_Back l R p e below s args y 3 W9 Pre Post PostX)
    {b : Addr} {cellB : Cell} (hcell : T.heap[b]? = some cellB) (hobj : cellB.vm.isStatics = false) (hcls : s.vm.findClass C = some cellB.cls)
    {g : JFrame} (hg : g.method = m) (hsize : g.locals.size = c.maxLocals) {argsL rest : List Value} (hlen : ∀ sig, parseMethodDescriptor y.desc = some sig → argsL.length = sig.parameters.length)
    (hstack : g.stack = argsL.reverse ++ .ref b :: rest) (hW : 2 * g.monitorRoom + (rest.map fun v => v.category).sum ≤ W9) (hdg : decode c.code g.pc = .ok (.invokevirtual index, 3))
    (hpre : ∀ vm₁, s.WarmedH vm₁ → Pre ⟨T.setVm vm₁, locs, cells, slots⟩ (Value.ref b :: argsL).toArray) :
    (∃ (v : Option Value) (vm₁ : Vm) (B : Pt), s.WarmedH vm₁ ∧ Stand p l e R s m args below meth c B.U B.locs B.cells B.slots ∧ Post ⟨T.setVm vm₁, locs, cells, slots⟩ (Value.ref b :: argsL).toArray v B ∧
      ∀ target, Steps p.tables e below (B.U.setTop { g with pc := g.pc + 3, stack := v.toList ++ rest }) target → Steps p.tables e below (T.setTop g) target) ∨
    (∃ (q : Addr) (vm₁ : Vm) (B : Pt), s.WarmedH vm₁ ∧ Stand p l e R s m args below meth c B.U B.locs B.cells B.slots ∧ PostX ⟨T.setVm vm₁, locs, cells, slots⟩ (Value.ref b :: argsL).toArray q B ∧
      Steps p.tables e below (T.setTop g) ((B.U.setTop { g with stack := rest }).pushFrame (.throwing q))) := by
  obtain ⟨mk, methM, hnamed, hmethM, hstM, habM⟩ := Cond.instanceMethod_spec hinst
  obtain ⟨m8, methM', cM, hn8, hmethM', -, -, -, -, -, -, hsigM⟩ := Cond.codeWith_spec hcode
  cases Option.some.inj (hn8.symm.trans hnamed)
  cases hmethM.symm.trans hmethM'
  obtain ⟨c2, r2, m2, q1, q2, q3, q4, kP, hkP, hkPi⟩ := Cond.selects_spec hsel
  cases hcls.symm.trans q1
  cases (State.methodFound?_of_named hnamed hy).symm.trans q2
  cases hnamed.symm.trans q3
  have hselP : selectMethod e.platform s.vm cellB.cls mk = .method mk := by rw [Launch.admits_selectMethod X.admits]; exact q4
  obtain ⟨vm₁, X₁, hstep₁⟩ := X.invokevirtual hexec hown hlink hnamed hmethM hstM hkP hkPi hy (a := b) (cell := cellB) hcell
    (fun z h => by rw [h] at hobj; cases hobj) hselP hmethM habM hkP hkPi (g := g) hg (argsL := argsL) (rest := rest) (hlen _ hsigM) hstack hdg
  rcases hK m meth c ⟨T.setVm vm₁, locs, cells, slots⟩ { g with stack := rest } (.invokevirtual index) mk (Value.ref b :: argsL).toArray X₁ hg hsize hdg hW (X₁.named hnamed) (hpre vm₁ X₁.warmed) with ⟨v, B, X', hpost, hsteps⟩ | ⟨q, B, X', hpost, hsteps⟩
  · exact Or.inl ⟨v, vm₁, B, X₁.warmed, X', hpost, fun target h => hstep₁ _ fun acts => by rw [doInvoke_state]; exact hsteps.trans h⟩
  · exact Or.inr ⟨q, vm₁, B, X₁.warmed, X', hpost, hstep₁ _ fun acts => by rw [doInvoke_state]; exact hsteps⟩
theorem vx_callSX (X : Stand p l e R s m args below meth c T locs cells slots) (hexec : p.tables.exec = Jvm.exec) {own : String} {index : Nat} {y : MethodName} {bytes : ByteArray} {maxL : Nat} {ret : Option FieldType} {hh : List (Nat × Nat × Nat × Nat)}
    (hown : s.vm.findClass own = some m.cls) (hlink : (Cond.methodLink own index y).before args s = true) (hstat : (Cond.static y).before args s = true) (hinit : (Cond.initialized y.cls).before args s = true)
    (hcode : (Cond.codeWith y bytes maxL ret hh).before args s = true) (hy : y.cls ≠ "java/lang/invoke/MethodHandle" ∧ y.cls ≠ "java/lang/invoke/VarHandle")
    {W9 : Nat} {Pre : Pt → Array Value → Prop} {Post : Pt → Array Value → Option Value → Pt → Prop} {PostX : Pt → Array Value → Addr → Pt → Prop} (hK : vx_Back l R p e below s args y 3 W9 Pre Post PostX)
    {g : JFrame} (hg : g.method = m) (hsize : g.locals.size = c.maxLocals) {argsL rest : List Value} (hlen : ∀ sig, parseMethodDescriptor y.desc = some sig → argsL.length = sig.parameters.length)
    (hstack : g.stack = argsL.reverse ++ rest) (hW : 2 * g.monitorRoom + (rest.map fun v => v.category).sum ≤ W9) (hdg : decode c.code g.pc = .ok (.invokestatic index, 3))
    (hpre : ∀ vm₁, s.WarmedH vm₁ → Pre ⟨T.setVm vm₁, locs, cells, slots⟩ argsL.toArray) :
    (∃ (v : Option Value) (vm₁ : Vm) (B : Pt), s.WarmedH vm₁ ∧ Stand p l e R s m args below meth c B.U B.locs B.cells B.slots ∧ Post ⟨T.setVm vm₁, locs, cells, slots⟩ argsL.toArray v B ∧
      ∀ target, Steps p.tables e below (B.U.setTop { g with pc := g.pc + 3, stack := v.toList ++ rest }) target → Steps p.tables e below (T.setTop g) target) ∨
    (∃ (q : Addr) (vm₁ : Vm) (B : Pt), s.WarmedH vm₁ ∧ Stand p l e R s m args below meth c B.U B.locs B.cells B.slots ∧ PostX ⟨T.setVm vm₁, locs, cells, slots⟩ argsL.toArray q B ∧
      Steps p.tables e below (T.setTop g) ((B.U.setTop { g with stack := rest }).pushFrame (.throwing q))) := by
  obtain ⟨mk, methM, cM, hnamed, hmethM, -, -, -, -, -, -, hsigM⟩ := Cond.codeWith_spec hcode
  have hstatic : methM.isStatic = true := Cond.static_spec hnamed hmethM hstat
  obtain ⟨kP, hkP, -⟩ := className_of_methodNamed hnamed
  have hinitP : kP.init = .initialized := Cond.initialized_spec (findClass_of_methodNamed hnamed) hkP hinit
  obtain ⟨vm₁, X₁, hstep₁⟩ := X.invokestatic hexec hown hlink hnamed hmethM hstatic hkP hinitP hy (g := g) hg (argsL := argsL) (rest := rest) (hlen _ hsigM) hstack hdg
  rcases hK m meth c ⟨T.setVm vm₁, locs, cells, slots⟩ { g with stack := rest } (.invokestatic index) mk argsL.toArray X₁ hg hsize hdg hW (X₁.named hnamed) (hpre vm₁ X₁.warmed) with ⟨v, B, X', hpost, hsteps⟩ | ⟨q, B, X', hpost, hsteps⟩
  · exact Or.inl ⟨v, vm₁, B, X₁.warmed, X', hpost, fun target h => hstep₁ _ fun acts => by rw [doInvoke_state]; exact hsteps.trans h⟩
  · exact Or.inr ⟨q, vm₁, B, X₁.warmed, X', hpost, hstep₁ _ fun acts => by rw [doInvoke_state]; exact hsteps⟩
theorem vx_callVW (X : Stand p l e R s m args below meth c T locs cells slots) (hexec : p.tables.exec = Jvm.exec) {own C : String} {index : Nat} {y : MethodName} {bytes : ByteArray} {maxL : Nat} {ret : Option FieldType} {hh : List (Nat × Nat × Nat × Nat)}
    (hown : s.vm.findClass own = some m.cls) (hlink : (Cond.methodLink own index y).before args s = true) (hinst : (Cond.instanceMethod y).before args s = true) (hsel : (Cond.selects C y y).before args s = true)
    (hcode : (Cond.codeWith y bytes maxL ret hh).before args s = true) (hy : y.cls ≠ "java/lang/invoke/MethodHandle" ∧ y.cls ≠ "java/lang/invoke/VarHandle")
    {W9 : Nat} {Pre : Pt → Array Value → Prop} {Post : Pt → Array Value → Option Value → Pt → Prop} (hK : Back l R p e below s args y 3 W9 Pre Post)
    {b : Addr} {cellB : Cell} (hcell : T.heap[b]? = some cellB) (hobj : cellB.vm.isStatics = false) (hcls : s.vm.findClass C = some cellB.cls)
    {g : JFrame} (hg : g.method = m) (hsize : g.locals.size = c.maxLocals) {argsL rest : List Value} (hlen : ∀ sig, parseMethodDescriptor y.desc = some sig → argsL.length = sig.parameters.length)
    (hstack : g.stack = argsL.reverse ++ .ref b :: rest) (hW : 2 * g.monitorRoom + (rest.map fun v => v.category).sum ≤ W9) (hdg : decode c.code g.pc = .ok (.invokevirtual index, 3))
    (hpre : ∀ vm₁, s.WarmedH vm₁ → Pre ⟨T.setVm vm₁, locs, cells, slots⟩ (Value.ref b :: argsL).toArray) :
    ∃ (v : Option Value) (vm₁ : Vm) (B : Pt), s.WarmedH vm₁ ∧ Stand p l e R s m args below meth c B.U B.locs B.cells B.slots ∧ Post ⟨T.setVm vm₁, locs, cells, slots⟩ (Value.ref b :: argsL).toArray v B ∧
      ∀ target, Steps p.tables e below (B.U.setTop { g with pc := g.pc + 3, stack := v.toList ++ rest }) target → Steps p.tables e below (T.setTop g) target := by
  obtain ⟨mk, methM, hnamed, hmethM, hstM, habM⟩ := Cond.instanceMethod_spec hinst
  obtain ⟨m8, methM', cM, hn8, hmethM', -, -, -, -, -, -, hsigM⟩ := Cond.codeWith_spec hcode
  cases Option.some.inj (hn8.symm.trans hnamed)
  cases hmethM.symm.trans hmethM'
  obtain ⟨c2, r2, m2, q1, q2, q3, q4, kP, hkP, hkPi⟩ := Cond.selects_spec hsel
  cases hcls.symm.trans q1
  cases (State.methodFound?_of_named hnamed hy).symm.trans q2
  cases hnamed.symm.trans q3
  have hselP : selectMethod e.platform s.vm cellB.cls mk = .method mk := by rw [Launch.admits_selectMethod X.admits]; exact q4
  obtain ⟨vm₁, X₁, hstep₁⟩ := X.invokevirtual hexec hown hlink hnamed hmethM hstM hkP hkPi hy (a := b) (cell := cellB) hcell
    (fun z h => by rw [h] at hobj; cases hobj) hselP hmethM habM hkP hkPi (g := g) hg (argsL := argsL) (rest := rest) (hlen _ hsigM) hstack hdg
  obtain ⟨v, B, X', hpost, hsteps⟩ := hK m meth c ⟨T.setVm vm₁, locs, cells, slots⟩ { g with stack := rest } (.invokevirtual index) mk (Value.ref b :: argsL).toArray X₁ hg hsize hdg hW (X₁.named hnamed) (hpre vm₁ X₁.warmed)
  exact ⟨v, vm₁, B, X₁.warmed, X', hpost, fun target h => hstep₁ _ fun acts => by rw [doInvoke_state]; exact hsteps.trans h⟩
abbrev vx_CVW (R : Room) (s : State) (args : Array Value) (own C : String) (index : Nat) (y : MethodName) (bytes : ByteArray) (maxL : Nat) (ret : Option FieldType) (hh : List (Nat × Nat × Nat × Nat)) (ws : List Cond) (rm : Room) (mc ms n : Nat) : Prop :=
  (rm.cells = mc ∧ rm.slots = ms ∧ rm.frames + 1 ≤ R.frames ∧ 8 + (maxL + 11) + rm.locals ≤ R.locals ∧ (∀ w ∈ ws, ∀ (a' : Array Value) (U : State), s.WarmedH U.vm → w.before a' U = true) ∧ Cond.codeWith y bytes maxL ret hh ∈ ws) ∧
  (Cond.codeWith y bytes maxL ret hh).before args s = true ∧ (Cond.initialized y.cls).before args s = true ∧ (y.cls ≠ "java/lang/invoke/MethodHandle" ∧ y.cls ≠ "java/lang/invoke/VarHandle") ∧
  (∀ sig, parseMethodDescriptor y.desc = some sig → n = sig.parameters.length) ∧ (Cond.methodLink own index y).before args s = true ∧ (Cond.instanceMethod y).before args s = true ∧ (Cond.selects C y y).before args s = true
theorem vx_cwVW {own C : String} {index maxL mc ms : Nat} {y : MethodName} {bytes : ByteArray} {ret : Option FieldType} {hh : List (Nat × Nat × Nat × Nat)} {Ts ws ws' : List Cond} {rm : Room} (n : Nat) (ht : ∀ w ∈ Ts, w.before args s = true) (hT : GoodIn Ts (wsV own index C y ws)) (hw : ws = Cond.codeWith y bytes maxL ret hh :: ws') (hrc : rm.cells = mc) (hrs : rm.slots = ms)
    (hd : y.cls = C ∧ y.cls ≠ "java/lang/invoke/MethodHandle" ∧ y.cls ≠ "java/lang/invoke/VarHandle" ∧ (parseMethodDescriptor y.desc).map (fun d => d.parameters.length) = some n) (hR : rm.frames + 1 ≤ R.frames ∧ 8 + (maxL + 11) + rm.locals ≤ R.locals) :
    vx_CVW R s args own C index y bytes maxL ret hh ws rm mc ms n := by
  obtain ⟨hC, hd⟩ := hd
  subst hC
  have ok : ∀ w ∈ wsV own index y.cls y ws, w.before args s = true := fun w h => ht w (hT w h).1
  have hG : GoodIn Ts ws := fun w h => hT w (by unfold wsV; exact List.mem_append_right _ h)
  have hc : Cond.codeWith y bytes maxL ret hh ∈ ws := by rw [hw]; exact List.mem_cons_self
  refine ⟨⟨hrc, hrs, hR.1, hR.2, pay_in ht hG, hc⟩, ht _ (hG _ hc).1, ok _ (by simp [wsV]), ⟨hd.1, hd.2.1⟩, fun sig h => ?_, ok _ (by simp [wsV]), ok _ (by simp [wsV]), ok _ (by simp [wsV])⟩
  have h2 := hd.2.2
  rw [h] at h2
  exact (Option.some.inj h2).symm
theorem vx_runVW {y : MethodName} {bytes cc : ByteArray} {maxL nL mc ms n index : Nat} {ret : Option FieldType} {hh : List (Nat × Nat × Nat × Nat)} {ws : List Cond} {rm : Room} {Pc : Array Value → State → Prop} {Qc : Array Value → State → Outcome → State → Prop} {free : Addr → Prop} {Ts : List Cond} {own C : String} {b : Addr} {As rest : List Value} {g : JFrame}
    (S : CallFix p m c cc nL s args Ts own) (hM : Met l y ws rm Pc Qc mc ms free) (cw : vx_CVW R s args own C index y bytes maxL ret hh ws rm mc ms n) (hp : PreV s H C b Pc As)
    (hg : g.method = m) (hn : As.length = n) (hsize : g.locals.size = nL) (hstack : g.stack = As.reverse ++ .ref b :: rest) (hW : 2 * g.monitorRoom + (rest.map fun v => v.category).sum ≤ 8) (hdg : decode cc g.pc = .ok (.invokevirtual index, 3)) (hf : cells + mc ≤ R.cells ∧ slots + ms ≤ R.slots) :
    va_Run p l e R s m args below meth c H locs cells slots mc ms g rest (Qc (Value.ref b :: As).toArray) free := by
  obtain ⟨⟨hrc, hrs, hfr, hlo, hws, hcw⟩, hcode, hini, hy, hlen, hl, hin, hse⟩ := cw
  have hK : Back l R p e below s args y 3 8 (PreOf R mc ms Pc) (PostOf Qc mc ms free) := va_backW (hh := hh) (bytes := bytes) (maxL := maxL) (ret := ret) hM hp.1 hrc hrs hfr hlo hws hcw (fun a' U hW => word_at hW (Or.inl (by first | rfl | simp [Cond.onTables, Cond.keeps, Cond.steady])) hini)
  obtain ⟨hx, hb, hml, ho, -⟩ := S
  obtain ⟨-, ⟨cellB, hcB, hoB, hclB⟩, hPc⟩ := hp
  intro T hT X
  obtain ⟨v, vm₁, ⟨U', l2, c2, s2⟩, hW₁, X', ⟨g', mk, t, L, e1, e2, hq, h1, hL, h2, h3⟩, st⟩ := vx_callVW X hx (C := C) (hh := hh) (bytes := bytes) (maxL := maxL) (ret := ret) ho hl hin hse hcode hy hK (by rw [hT]; exact hcB) hoB hclB hg (hsize.trans hml.symm) (argsL := As) (rest := rest) (fun sig h => hn.trans (hlen sig h)) hstack hW (by rw [hb]; exact hdg)
    (fun vm₁ hW₁ => ⟨hf.1, hf.2, hPc (T.setVm vm₁) hT hW₁⟩)
  dsimp only [Pt.U, Pt.locs, Pt.cells, Pt.slots] at X' e1 e2 h1 h2 h3 st
  subst h1; subst h2; subst h3
  exact ⟨v, (T.setVm vm₁).calling g' mk (Value.ref b :: As).toArray, t, U', L, hT, X', hL, e1, e2, hq, st⟩
section
variable {y : MethodName} {bytes cc : ByteArray} {maxL nL mc ms n index : Nat} {ret : Option FieldType} {ws : List Cond} {rm : Room} {Pc : Array Value → State → Prop} {Qc : Array Value → State → Outcome → State → Prop} {XC : String → State → State → Prop} {free : Addr → Prop} {Ts : List Cond} {own C : String} {b : Addr} {As rest : List Value} {g : JFrame}
theorem vx_runVX {hh : List (Nat × Nat × Nat × Nat)} (S : CallFix p m c cc nL s args Ts own) (hM : vx_Met l y ws rm Pc Qc XC mc ms free) (cw : vx_CVW R s args own C index y bytes maxL ret hh ws rm mc ms n) (hp : PreV s H C b Pc As)
    (hg : g.method = m) (hn : As.length = n) (hsize : g.locals.size = nL) (hstack : g.stack = As.reverse ++ .ref b :: rest) (hW : 2 * g.monitorRoom + (rest.map fun v => v.category).sum ≤ 8) (hdg : decode cc g.pc = .ok (.invokevirtual index, 3)) (hf : cells + mc ≤ R.cells ∧ slots + ms ≤ R.slots) :
    vx_Run p l e R s m args below meth c H locs cells slots mc ms g rest (Qc (Value.ref b :: As).toArray) XC free := by
  obtain ⟨⟨hrc, hrs, hfr, hlo, hws, hcw⟩, hcode, hini, hy, hlen, hl, hin, hse⟩ := cw
  have hK : vx_Back l R p e below s args y 3 8 (PreOf R mc ms Pc) (PostOf Qc mc ms free) (vx_Post XC mc ms free) := vx_backW (hh := hh) (bytes := bytes) (maxL := maxL) (ret := ret) hM hp.1 hrc hrs hfr hlo hws hcw (fun a' U hW => word_at hW (Or.inl (by first | rfl | simp [Cond.onTables, Cond.keeps, Cond.steady])) hini)
  obtain ⟨hx, hb, hml, ho, -⟩ := S
  obtain ⟨-, ⟨cellB, hcB, hoB, hclB⟩, hPc⟩ := hp
  intro T hT X
  rcases vx_callVX X hx (C := C) (hh := hh) (bytes := bytes) (maxL := maxL) (ret := ret) ho hl hin hse hcode hy hK (by rw [hT]; exact hcB) hoB hclB hg (hsize.trans hml.symm) (argsL := As) (rest := rest) (fun sig h => hn.trans (hlen sig h)) hstack hW (by rw [hb]; exact hdg)
    (fun vm₁ hW₁ => ⟨hf.1, hf.2, hPc (T.setVm vm₁) hT hW₁⟩) with ⟨v, vm₁, ⟨U', l2, c2, s2⟩, hW₁, X', ⟨g', mk, t, L, e1, e2, hq, h1, hL, h2, h3⟩, st⟩ | ⟨q, vm₁, ⟨U', l2, c2, s2⟩, hW₁, X', ⟨g', mk, t, L, E, ce, e1, e2, hq, hce, hcv, hcl, h1, hL, h2, h3⟩, st⟩
  · dsimp only [Pt.U, Pt.locs, Pt.cells, Pt.slots] at X' e1 e2 h1 h2 h3 st
    subst h1; subst h2; subst h3
    exact Or.inl ⟨v, (T.setVm vm₁).calling g' mk (Value.ref b :: As).toArray, t, U', L, hT, X', hL, e1, e2, hq, st⟩
  · dsimp only [Pt.U, Pt.locs, Pt.cells, Pt.slots] at X' e1 e2 h1 h2 h3 st hcl
    subst h1; subst h2; subst h3
    exact Or.inr ⟨q, (T.setVm vm₁).calling g' mk (Value.ref b :: As).toArray, t, U', L, E, ce, hT, X', hL, e1, e2, hq, hce, hcv, vx_cls hW₁ hcl, st⟩
theorem vx_runSX {hh : List (Nat × Nat × Nat × Nat)} (S : CallFix p m c cc nL s args Ts own) (hM : vx_Met l y ws rm Pc Qc XC mc ms free) (cw : vx_CSW R s args own index y bytes maxL ret hh ws rm mc ms n) (hp : PreS s H Pc As)
    (hg : g.method = m) (hn : As.length = n) (hsize : g.locals.size = nL) (hstack : g.stack = As.reverse ++ rest) (hW : 2 * g.monitorRoom + (rest.map fun v => v.category).sum ≤ 8) (hdg : decode cc g.pc = .ok (.invokestatic index, 3)) (hf : cells + mc ≤ R.cells ∧ slots + ms ≤ R.slots) :
    vx_Run p l e R s m args below meth c H locs cells slots mc ms g rest (Qc As.toArray) XC free := by
  obtain ⟨⟨hrc, hrs, hfr, hlo, hws, hcw⟩, hcode, hini, hy, hlen, hl, hstt⟩ := cw
  have hK : vx_Back l R p e below s args y 3 8 (PreOf R mc ms Pc) (PostOf Qc mc ms free) (vx_Post XC mc ms free) := vx_backW (hh := hh) (bytes := bytes) (maxL := maxL) (ret := ret) hM hp.1 hrc hrs hfr hlo hws hcw (fun a' U hW => word_at hW (Or.inl (by first | rfl | simp [Cond.onTables, Cond.keeps, Cond.steady])) hini)
  obtain ⟨hx, hb, hml, ho, -⟩ := S
  intro T hT X
  rcases vx_callSX X hx (hh := hh) (bytes := bytes) (maxL := maxL) (ret := ret) ho hl hstt hini hcode hy hK hg (hsize.trans hml.symm) (argsL := As) (rest := rest) (fun sig h => hn.trans (hlen sig h)) hstack hW (by rw [hb]; exact hdg)
    (fun vm₁ hW₁ => ⟨hf.1, hf.2, hp.2 (T.setVm vm₁) hT hW₁⟩) with ⟨v, vm₁, ⟨U', l2, c2, s2⟩, hW₁, X', ⟨g', mk, t, L, e1, e2, hq, h1, hL, h2, h3⟩, st⟩ | ⟨q, vm₁, ⟨U', l2, c2, s2⟩, hW₁, X', ⟨g', mk, t, L, E, ce, e1, e2, hq, hce, hcv, hcl, h1, hL, h2, h3⟩, st⟩
  · dsimp only [Pt.U, Pt.locs, Pt.cells, Pt.slots] at X' e1 e2 h1 h2 h3 st
    subst h1; subst h2; subst h3
    exact Or.inl ⟨v, (T.setVm vm₁).calling g' mk As.toArray, t, U', L, hT, X', hL, e1, e2, hq, st⟩
  · dsimp only [Pt.U, Pt.locs, Pt.cells, Pt.slots] at X' e1 e2 h1 h2 h3 st hcl
    subst h1; subst h2; subst h3
    exact Or.inr ⟨q, (T.setVm vm₁).calling g' mk As.toArray, t, U', L, E, ce, hT, X', hL, e1, e2, hq, hce, hcv, vx_cls hW₁ hcl, st⟩
end
end VXH
theorem vx_ofWH {l : Launch} {y : MethodName} {ws ws' : List Cond} {rm : Room} {Pc : Array Value → State → Prop} {Qc : Array Value → State → Outcome → State → Prop} {XC : String → State → State → Prop} {mc ms : Nat} {free : Addr → Prop} {cc : ByteArray} {maxL : Nat} {ret : Option FieldType} {hh : List (Nat × Nat × Nat × Nat)}
    (hy : plainName y.cls = true) (hw : ws = Cond.codeWith y cc maxL ret hh :: ws')
    (body : ∀ p e s m args below meth c s₁, BodyLoose p l y (headSpec ws rm) cc maxL ret e s m args below meth c s₁ → c.maxLocals = maxL → Pc args s →
      W p l e (headSpec ws rm).room s m args below meth c s.heap [] 0 0 (vx_MQ below Qc XC args s mc ms free) (entryFrame m args maxL)) : vx_Met l y ws rm Pc Qc XC mc ms free := by
  refine MetFree.of_bodyS (code := cc) (maxLocals := maxL) (ret := ret) hy ?_ ?_
  · intro args s m h hn
    obtain ⟨m9, meth, c, hn9, h1, h2, h3, h4, -, h5, h6, -⟩ := Cond.codeWith_spec (atoms_spec (ws := ws) h _ (by rw [hw]; exact List.mem_cons_self))
    cases hn.symm.trans hn9
    exact ⟨meth, c, h1, h2, h3, h4, h5, h6⟩
  · intro p e s m args below meth c s₁ B hml hP _
    have hh0 : s₁.heap = s.heap := by rw [B.state]; rfl
    obtain ⟨t, a1, o, b1, b2, b3⟩ := body p e s m args below meth c s₁ B hml hP s₁ hh0 (Stand.of_body B)
    exact ⟨t, o, a1, b1, b2, b3⟩
/-! ===== END ===== -/
end
section
/-! ===== BEGIN printed: names, fields, word lists, decode rows ===== -/
def RX0 : String := "CrystalClub$Club"
def TX0 : u_T := fun k => match k with
  | 0 => ("CrystalClub$Club", "stations", "[LCrystalClub$Station;", true)
  | 1 => ("CrystalClub$Club", "members", "[LCrystalClub$Member;", true)
  | 2 => ("CrystalClub$Club", "letters", "LCrystalClub$Table;", true)
  | 3 => ("CrystalClub$Club", "hearing", "LCrystalClub$Hearing;", true)
  | 4 => ("CrystalClub$Club", "stationCount", "I", false)
  | 5 => ("CrystalClub$Club", "memberCount", "I", false)
  | _ => ("CrystalClub$Club", "hour", "I", false)
def tyX0 : Nat → FieldType := fun k => match k with
  | 0 => .array (.object "CrystalClub$Station")
  | 1 => .array (.object "CrystalClub$Member")
  | 2 => .object "CrystalClub$Table"
  | 3 => .object "CrystalClub$Hearing"
  | 4 => .int
  | 5 => .int
  | _ => .int
abbrev wsX00 : List Cond := u_ws RX0 TX0 7
theorem nmX0 : ∀ a, a < 7 → ∀ b, b < 7 → a ≠ b → (TX0 a).2.1 ≠ (TX0 b).2.1 := by decide +kernel
theorem tyX0_ok : ∀ k, k < 7 → parseFieldDescriptor (TX0 k).2.2.1 = some (tyX0 k) := by decide +kernel
abbrev cX0_init : ByteArray := prog_2_method_1_code
def yX0_init : MethodName := ⟨RX0, "<init>", "()V"⟩
abbrev cX0_copyFrom : ByteArray := prog_2_method_2_code
def yX0_copyFrom : MethodName := ⟨RX0, "copyFrom", "(LCrystalClub$Club;)V"⟩
abbrev cX0_stationAt : ByteArray := prog_2_method_3_code
def yX0_stationAt : MethodName := ⟨RX0, "stationAt", "(I)LCrystalClub$Station;"⟩
abbrev cX0_memberAt : ByteArray := prog_2_method_4_code
def yX0_memberAt : MethodName := ⟨RX0, "memberAt", "(I)LCrystalClub$Member;"⟩
abbrev cX0_found : ByteArray := prog_2_method_5_code
def yX0_found : MethodName := ⟨RX0, "found", "(LCrystalClub$Station;)I"⟩
abbrev cX0_admit : ByteArray := prog_2_method_6_code
def yX0_admit : MethodName := ⟨RX0, "admit", "(II)I"⟩
abbrev cX0_hearingOf : ByteArray := prog_2_method_7_code
def yX0_hearingOf : MethodName := ⟨RX0, "hearingOf", "(LCrystalClub$CrystalSet;I)LCrystalClub$Hearing;"⟩
abbrev cX0_bestDial : ByteArray := prog_2_method_8_code
def yX0_bestDial : MethodName := ⟨RX0, "bestDial", "(LCrystalClub$CrystalSet;I)I"⟩
abbrev cX0_keepsApart : ByteArray := prog_2_method_9_code
def yX0_keepsApart : MethodName := ⟨RX0, "keepsApart", "(LCrystalClub$CrystalSet;ILCrystalClub$Station;LCrystalClub$Station;)Z"⟩
abbrev cX0_passHours : ByteArray := prog_2_method_10_code
def yX0_passHours : MethodName := ⟨RX0, "passHours", "(I)I"⟩
abbrev cX0_writeLines : ByteArray := prog_2_method_11_code
def yX0_writeLines : MethodName := ⟨RX0, "writeLines", "()I"⟩
abbrev cX0_writeLine : ByteArray := prog_2_method_12_code
def yX0_writeLine : MethodName := ⟨RX0, "writeLine", "(LCrystalClub$Member;)Z"⟩
abbrev cX0_wearCrystals : ByteArray := prog_2_method_13_code
def yX0_wearCrystals : MethodName := ⟨RX0, "wearCrystals", "()V"⟩
abbrev cX0_answerLetters : ByteArray := prog_2_method_14_code
def yX0_answerLetters : MethodName := ⟨RX0, "answerLetters", "()V"⟩
abbrev cX0_answer : ByteArray := prog_2_method_15_code
def yX0_answer : MethodName := ⟨RX0, "answer", "(II)V"⟩
abbrev cX0_hasLetterOf : ByteArray := prog_2_method_16_code
def yX0_hasLetterOf : MethodName := ⟨RX0, "hasLetterOf", "(II)Z"⟩
abbrev cX0_send : ByteArray := prog_2_method_17_code
def yX0_send : MethodName := ⟨RX0, "send", "(II)I"⟩
abbrev cX0_scoreOf : ByteArray := prog_2_method_18_code
def yX0_scoreOf : MethodName := ⟨RX0, "scoreOf", "(LCrystalClub$Member;)I"⟩
abbrev cX0_memberAtPlace : ByteArray := prog_2_method_19_code
def yX0_memberAtPlace : MethodName := ⟨RX0, "memberAtPlace", "(I)I"⟩
abbrev cX0_leadersOf : ByteArray := prog_2_method_20_code
def yX0_leadersOf : MethodName := ⟨RX0, "leadersOf", "(I)I"⟩
abbrev cX0_leads : ByteArray := prog_2_method_21_code
def yX0_leads : MethodName := ⟨RX0, "leads", "(II)Z"⟩
abbrev cX0_tellStation : ByteArray := prog_2_method_22_code
def yX0_tellStation : MethodName := ⟨RX0, "tellStation", "(II)I"⟩
abbrev cX0_membersWithCardOf : ByteArray := prog_2_method_23_code
def yX0_membersWithCardOf : MethodName := ⟨RX0, "membersWithCardOf", "(I)I"⟩
abbrev cX0_tellMember : ByteArray := prog_2_method_24_code
def yX0_tellMember : MethodName := ⟨RX0, "tellMember", "(II)I"⟩
abbrev cX0_tellCount : ByteArray := prog_2_method_25_code
def yX0_tellCount : MethodName := ⟨RX0, "tellCount", "(I)I"⟩
abbrev cX0_stationsOnAir : ByteArray := prog_2_method_26_code
def yX0_stationsOnAir : MethodName := ⟨RX0, "stationsOnAir", "()I"⟩
abbrev cX0_listeners : ByteArray := prog_2_method_27_code
def yX0_listeners : MethodName := ⟨RX0, "listeners", "()I"⟩
abbrev cX0_allLines : ByteArray := prog_2_method_28_code
def yX0_allLines : MethodName := ⟨RX0, "allLines", "()I"⟩
abbrev cX0_confirmedLines : ByteArray := prog_2_method_29_code
def yX0_confirmedLines : MethodName := ⟨RX0, "confirmedLines", "()I"⟩
abbrev cX0_allStrengths : ByteArray := prog_2_method_30_code
def yX0_allStrengths : MethodName := ⟨RX0, "allStrengths", "()I"⟩
abbrev cX0_sumOfLogs : ByteArray := prog_2_method_31_code
def yX0_sumOfLogs : MethodName := ⟨RX0, "sumOfLogs", "(I)I"⟩
abbrev cX0_checksum : ByteArray := prog_2_method_32_code
def yX0_checksum : MethodName := ⟨RX0, "checksum", "()J"⟩
abbrev cX0_withMember : ByteArray := prog_2_method_33_code
def yX0_withMember : MethodName := ⟨RX0, "withMember", "(JI)J"⟩
abbrev cX0_withRows : ByteArray := prog_2_method_34_code
def yX0_withRows : MethodName := ⟨RX0, "withRows", "(JLCrystalClub$Table;)J"⟩
def RX1 : String := "CrystalClub$CrystalSet"
def TX1 : u_T := fun k => match k with
  | 0 => ("CrystalClub$CrystalSet", "turns", "I", false)
  | 1 => ("CrystalClub$CrystalSet", "dial", "I", false)
  | 2 => ("CrystalClub$CrystalSet", "aerial", "I", false)
  | 3 => ("CrystalClub$CrystalSet", "crystal", "I", false)
  | 4 => ("CrystalClub$CrystalSet", "tuned", "I", false)
  | _ => ("CrystalClub$CrystalSet", "width", "I", false)
def tyX1 : Nat → FieldType := fun k => match k with
  | 0 => .int
  | 1 => .int
  | 2 => .int
  | 3 => .int
  | 4 => .int
  | _ => .int
abbrev wsX10 : List Cond := u_ws RX1 TX1 6
theorem nmX1 : ∀ a, a < 6 → ∀ b, b < 6 → a ≠ b → (TX1 a).2.1 ≠ (TX1 b).2.1 := by decide +kernel
theorem tyX1_ok : ∀ k, k < 6 → parseFieldDescriptor (TX1 k).2.2.1 = some (tyX1 k) := by decide +kernel
abbrev cX1_init : ByteArray := prog_3_method_1_code
def yX1_init : MethodName := ⟨RX1, "<init>", "()V"⟩
abbrev cX1_tune : ByteArray := prog_3_method_2_code
def yX1_tune : MethodName := ⟨RX1, "tune", "(II)V"⟩
abbrev cX1_copyFrom : ByteArray := prog_3_method_3_code
def yX1_copyFrom : MethodName := ⟨RX1, "copyFrom", "(LCrystalClub$CrystalSet;)V"⟩
abbrev cX1_strengthOf : ByteArray := prog_3_method_4_code
def yX1_strengthOf : MethodName := ⟨RX1, "strengthOf", "(LCrystalClub$Station;I)I"⟩
def RX2 : String := "CrystalClub$Hearing"
def TX2 : u_T := fun k => match k with
  | 0 => ("CrystalClub$Hearing", "inReach", "I", false)
  | 1 => ("CrystalClub$Hearing", "loudest", "I", false)
  | 2 => ("CrystalClub$Hearing", "strength", "I", false)
  | _ => ("CrystalClub$Hearing", "runnerUp", "I", false)
def tyX2 : Nat → FieldType := fun k => match k with
  | 0 => .int
  | 1 => .int
  | 2 => .int
  | _ => .int
abbrev wsX20 : List Cond := u_ws RX2 TX2 4
theorem nmX2 : ∀ a, a < 4 → ∀ b, b < 4 → a ≠ b → (TX2 a).2.1 ≠ (TX2 b).2.1 := by decide +kernel
theorem tyX2_ok : ∀ k, k < 4 → parseFieldDescriptor (TX2 k).2.2.1 = some (tyX2 k) := by decide +kernel
abbrev cX2_init : ByteArray := prog_4_method_1_code
def yX2_init : MethodName := ⟨RX2, "<init>", "()V"⟩
abbrev cX2_clear : ByteArray := prog_4_method_2_code
def yX2_clear : MethodName := ⟨RX2, "clear", "()V"⟩
abbrev cX2_offer : ByteArray := prog_4_method_3_code
def yX2_offer : MethodName := ⟨RX2, "offer", "(II)V"⟩
abbrev cX2_verdict : ByteArray := prog_4_method_4_code
def yX2_verdict : MethodName := ⟨RX2, "verdict", "()I"⟩
def RX3 : String := "CrystalClub$Member"
def TX3 : u_T := fun k => match k with
  | 0 => ("CrystalClub$Member", "set", "LCrystalClub$CrystalSet;", true)
  | 1 => ("CrystalClub$Member", "lines", "LCrystalClub$Table;", true)
  | _ => ("CrystalClub$Member", "listens", "Z", false)
def tyX3 : Nat → FieldType := fun k => match k with
  | 0 => .object "CrystalClub$CrystalSet"
  | 1 => .object "CrystalClub$Table"
  | _ => .boolean
abbrev wsX30 : List Cond := u_ws RX3 TX3 3
theorem nmX3 : ∀ a, a < 3 → ∀ b, b < 3 → a ≠ b → (TX3 a).2.1 ≠ (TX3 b).2.1 := by decide +kernel
theorem tyX3_ok : ∀ k, k < 3 → parseFieldDescriptor (TX3 k).2.2.1 = some (tyX3 k) := by decide +kernel
abbrev cX3_init : ByteArray := prog_5_method_1_code
def yX3_init : MethodName := ⟨RX3, "<init>", "()V"⟩
abbrev cX3_begin : ByteArray := prog_5_method_2_code
def yX3_begin : MethodName := ⟨RX3, "begin", "(II)V"⟩
abbrev cX3_copyFrom : ByteArray := prog_5_method_3_code
def yX3_copyFrom : MethodName := ⟨RX3, "copyFrom", "(LCrystalClub$Member;)V"⟩
abbrev cX3_hasLineOf : ByteArray := prog_5_method_4_code
def yX3_hasLineOf : MethodName := ⟨RX3, "hasLineOf", "(II)Z"⟩
abbrev cX3_cards : ByteArray := prog_5_method_5_code
def yX3_cards : MethodName := ⟨RX3, "cards", "()I"⟩
abbrev cX3_addLine : ByteArray := prog_5_method_6_code
def yX3_addLine : MethodName := ⟨RX3, "addLine", "(III)V"⟩
abbrev cX3_takeAnswer : ByteArray := prog_5_method_7_code
def yX3_takeAnswer : MethodName := ⟨RX3, "takeAnswer", "(I)V"⟩
abbrev cX3_wearCrystal : ByteArray := prog_5_method_8_code
def yX3_wearCrystal : MethodName := ⟨RX3, "wearCrystal", "()V"⟩
def RX4 : String := "CrystalClub$Station"
def TX4 : u_T := fun k => match k with
  | 0 => ("CrystalClub$Station", "frequency", "I", true)
  | 1 => ("CrystalClub$Station", "power", "I", true)
  | 2 => ("CrystalClub$Station", "far", "I", true)
  | 3 => ("CrystalClub$Station", "from", "I", true)
  | 4 => ("CrystalClub$Station", "hours", "I", true)
  | _ => ("CrystalClub$Station", "phase", "I", true)
def tyX4 : Nat → FieldType := fun k => match k with
  | 0 => .int
  | 1 => .int
  | 2 => .int
  | 3 => .int
  | 4 => .int
  | _ => .int
abbrev wsX40 : List Cond := u_ws RX4 TX4 6
theorem nmX4 : ∀ a, a < 6 → ∀ b, b < 6 → a ≠ b → (TX4 a).2.1 ≠ (TX4 b).2.1 := by decide +kernel
theorem tyX4_ok : ∀ k, k < 6 → parseFieldDescriptor (TX4 k).2.2.1 = some (tyX4 k) := by decide +kernel
abbrev cX4_init : ByteArray := prog_6_method_1_code
def yX4_init : MethodName := ⟨RX4, "<init>", "(IIIIII)V"⟩
abbrev cX4_isOnAir : ByteArray := prog_6_method_2_code
def yX4_isOnAir : MethodName := ⟨RX4, "isOnAir", "(I)Z"⟩
abbrev cX4_fading : ByteArray := prog_6_method_3_code
def yX4_fading : MethodName := ⟨RX4, "fading", "(I)I"⟩
abbrev cX4_daysOfMail : ByteArray := prog_6_method_4_code
def yX4_daysOfMail : MethodName := ⟨RX4, "daysOfMail", "()I"⟩
def RX5 : String := "CrystalClub$Table"
def TX5 : u_T := fun k => match k with
  | 0 => ("CrystalClub$Table", "columns", "I", true)
  | 1 => ("CrystalClub$Table", "cells", "[I", true)
  | _ => ("CrystalClub$Table", "size", "I", false)
def tyX5 : Nat → FieldType := fun k => match k with
  | 0 => .int
  | 1 => .array .int
  | _ => .int
abbrev wsX50 : List Cond := u_ws RX5 TX5 3
theorem nmX5 : ∀ a, a < 3 → ∀ b, b < 3 → a ≠ b → (TX5 a).2.1 ≠ (TX5 b).2.1 := by decide +kernel
theorem tyX5_ok : ∀ k, k < 3 → parseFieldDescriptor (TX5 k).2.2.1 = some (tyX5 k) := by decide +kernel
abbrev cX5_init : ByteArray := prog_7_method_1_code
def yX5_init : MethodName := ⟨RX5, "<init>", "(II)V"⟩
abbrev cX5_isFull : ByteArray := prog_7_method_2_code
def yX5_isFull : MethodName := ⟨RX5, "isFull", "()Z"⟩
abbrev cX5_at : ByteArray := prog_7_method_3_code
def yX5_at : MethodName := ⟨RX5, "at", "(II)I"⟩
abbrev cX5_put : ByteArray := prog_7_method_4_code
def yX5_put : MethodName := ⟨RX5, "put", "(III)V"⟩
abbrev cX5_copyRow : ByteArray := prog_7_method_5_code
def yX5_copyRow : MethodName := ⟨RX5, "copyRow", "(II)V"⟩
abbrev cX5_copyFrom : ByteArray := prog_7_method_6_code
def yX5_copyFrom : MethodName := ⟨RX5, "copyFrom", "(LCrystalClub$Table;)V"⟩
abbrev cX5_sum : ByteArray := prog_7_method_7_code
def yX5_sum : MethodName := ⟨RX5, "sum", "(I)I"⟩
def RX6 : String := "CrystalClub"
def TX6 : u_T := fun k => match k with
  | 0 => ("CrystalClub", "now", "LCrystalClub$Club;", true)
  | 1 => ("CrystalClub", "trial", "LCrystalClub$Club;", true)
  | _ => ("CrystalClub", "probe", "LCrystalClub$CrystalSet;", true)
def tyX6 : Nat → FieldType := fun k => match k with
  | 0 => .object "CrystalClub$Club"
  | 1 => .object "CrystalClub$Club"
  | _ => .object "CrystalClub$CrystalSet"
abbrev wsX60 : List Cond := u_ws RX6 TX6 3
theorem nmX6 : ∀ a, a < 3 → ∀ b, b < 3 → a ≠ b → (TX6 a).2.1 ≠ (TX6 b).2.1 := by decide +kernel
theorem tyX6_ok : ∀ k, k < 3 → parseFieldDescriptor (TX6 k).2.2.1 = some (tyX6 k) := by decide +kernel
abbrev cX6_init : ByteArray := prog_1_method_1_code
def yX6_init : MethodName := ⟨RX6, "<init>", "()V"⟩
abbrev cX6_addStation : ByteArray := prog_1_method_2_code
def yX6_addStation : MethodName := ⟨RX6, "addStation", "(IIIIII)I"⟩
abbrev cX6_join : ByteArray := prog_1_method_3_code
def yX6_join : MethodName := ⟨RX6, "join", "(II)I"⟩
abbrev cX6_turn : ByteArray := prog_1_method_4_code
def yX6_turn : MethodName := ⟨RX6, "turn", "(II)I"⟩
abbrev cX6_wind : ByteArray := prog_1_method_5_code
def yX6_wind : MethodName := ⟨RX6, "wind", "(II)I"⟩
abbrev cX6_listen : ByteArray := prog_1_method_6_code
def yX6_listen : MethodName := ⟨RX6, "listen", "(IZ)Z"⟩
abbrev cX6_renew : ByteArray := prog_1_method_7_code
def yX6_renew : MethodName := ⟨RX6, "renew", "(I)I"⟩
abbrev cX6_station : ByteArray := prog_1_method_8_code
def yX6_station : MethodName := ⟨RX6, "station", "(II)I"⟩
abbrev cX6_member : ByteArray := prog_1_method_9_code
def yX6_member : MethodName := ⟨RX6, "member", "(II)I"⟩
abbrev cX6_strength : ByteArray := prog_1_method_10_code
def yX6_strength : MethodName := ⟨RX6, "strength", "(II)I"⟩
abbrev cX6_hears : ByteArray := prog_1_method_11_code
def yX6_hears : MethodName := ⟨RX6, "hears", "(I)I"⟩
abbrev cX6_log : ByteArray := prog_1_method_12_code
def yX6_log : MethodName := ⟨RX6, "log", "(III)I"⟩
abbrev cX6_write : ByteArray := prog_1_method_13_code
def yX6_write : MethodName := ⟨RX6, "write", "(II)I"⟩
abbrev cX6_pass : ByteArray := prog_1_method_14_code
def yX6_pass : MethodName := ⟨RX6, "pass", "(I)I"⟩
abbrev cX6_count : ByteArray := prog_1_method_15_code
def yX6_count : MethodName := ⟨RX6, "count", "(I)I"⟩
abbrev cX6_rank : ByteArray := prog_1_method_16_code
def yX6_rank : MethodName := ⟨RX6, "rank", "(I)I"⟩
abbrev cX6_dial : ByteArray := prog_1_method_17_code
def yX6_dial : MethodName := ⟨RX6, "dial", "(II)I"⟩
abbrev cX6_next : ByteArray := prog_1_method_18_code
def yX6_next : MethodName := ⟨RX6, "next", "(II)I"⟩
abbrev cX6_apart : ByteArray := prog_1_method_19_code
def yX6_apart : MethodName := ⟨RX6, "apart", "(III)I"⟩
abbrev cX6_foresee : ByteArray := prog_1_method_20_code
def yX6_foresee : MethodName := ⟨RX6, "foresee", "(II)I"⟩
abbrev cX6_mean : ByteArray := prog_1_method_21_code
def yX6_mean : MethodName := ⟨RX6, "mean", "()D"⟩
abbrev cX6_digest : ByteArray := prog_1_method_22_code
def yX6_digest : MethodName := ⟨RX6, "digest", "()J"⟩
abbrev cX6_isWithin : ByteArray := prog_1_method_23_code
def yX6_isWithin : MethodName := ⟨RX6, "isWithin", "(III)Z"⟩
abbrev cX6_refuseUnlessWithin : ByteArray := prog_1_method_24_code
def yX6_refuseUnlessWithin : MethodName := ⟨RX6, "refuseUnlessWithin", "(II)V"⟩
abbrev cX6_stationOf : ByteArray := prog_1_method_25_code
def yX6_stationOf : MethodName := ⟨RX6, "stationOf", "(I)LCrystalClub$Station;"⟩
abbrev cX6_memberOf : ByteArray := prog_1_method_26_code
def yX6_memberOf : MethodName := ⟨RX6, "memberOf", "(I)LCrystalClub$Member;"⟩
abbrev cX6_setOf : ByteArray := prog_1_method_27_code
def yX6_setOf : MethodName := ⟨RX6, "setOf", "(I)LCrystalClub$CrystalSet;"⟩
abbrev cX6_logOf : ByteArray := prog_1_method_28_code
def yX6_logOf : MethodName := ⟨RX6, "logOf", "(II)LCrystalClub$Table;"⟩
abbrev cX6_quotient : ByteArray := prog_1_method_29_code
def yX6_quotient : MethodName := ⟨RX6, "quotient", "(II)I"⟩
abbrev cX6_distance : ByteArray := prog_1_method_30_code
def yX6_distance : MethodName := ⟨RX6, "distance", "(II)I"⟩
def RX7 : String := "CrystalClubModel$State"
def TX7 : u_T := fun k => match k with
  | 0 => ("CrystalClubModel$State", "hour", "I", false)
  | 1 => ("CrystalClubModel$State", "letters", "I", false)
  | 2 => ("CrystalClubModel$State", "written", "I", false)
  | 3 => ("CrystalClubModel$State", "answered", "I", false)
  | 4 => ("CrystalClubModel$State", "crystal", "[I", true)
  | 5 => ("CrystalClubModel$State", "lines", "[I", true)
  | 6 => ("CrystalClubModel$State", "log", "[I", true)
  | 7 => ("CrystalClubModel$State", "mail", "[I", true)
  | _ => ("CrystalClubModel$State", "this$0", "LCrystalClubModel;", true)
def tyX7 : Nat → FieldType := fun k => match k with
  | 0 => .int
  | 1 => .int
  | 2 => .int
  | 3 => .int
  | 4 => .array .int
  | 5 => .array .int
  | 6 => .array .int
  | 7 => .array .int
  | _ => .object "CrystalClubModel"
abbrev wsX70 : List Cond := u_ws RX7 TX7 9
theorem nmX7 : ∀ a, a < 9 → ∀ b, b < 9 → a ≠ b → (TX7 a).2.1 ≠ (TX7 b).2.1 := by decide +kernel
theorem tyX7_ok : ∀ k, k < 9 → parseFieldDescriptor (TX7 k).2.2.1 = some (tyX7 k) := by decide +kernel
abbrev cX7_init : ByteArray := prog_10_method_1_code
def yX7_init : MethodName := ⟨RX7, "<init>", "(LCrystalClubModel;)V"⟩
abbrev cX7_copy : ByteArray := prog_10_method_2_code
def yX7_copy : MethodName := ⟨RX7, "copy", "([I[I)V"⟩
abbrev cX7_become : ByteArray := prog_10_method_3_code
def yX7_become : MethodName := ⟨RX7, "become", "(LCrystalClubModel$State;)V"⟩
abbrev cX7_isInDay : ByteArray := prog_10_method_4_code
def yX7_isInDay : MethodName := ⟨RX7, "isInDay", "(II)Z"⟩
abbrev cX7_hear : ByteArray := prog_10_method_5_code
def yX7_hear : MethodName := ⟨RX7, "hear", "()V"⟩
abbrev cX7_answer : ByteArray := prog_10_method_6_code
def yX7_answer : MethodName := ⟨RX7, "answer", "()V"⟩
abbrev cX7_pass : ByteArray := prog_10_method_7_code
def yX7_pass : MethodName := ⟨RX7, "pass", "(I)V"⟩
abbrev cX7_hasCard : ByteArray := prog_10_method_8_code
def yX7_hasCard : MethodName := ⟨RX7, "hasCard", "(II)Z"⟩
def RX8 : String := "CrystalClubModel"
def TX8 : u_T := fun k => match k with
  | 0 => ("CrystalClubModel", "thrown", "I", false)
  | 1 => ("CrystalClubModel", "stations", "I", false)
  | 2 => ("CrystalClubModel", "members", "I", false)
  | 3 => ("CrystalClubModel", "air", "[I", true)
  | 4 => ("CrystalClubModel", "turns", "[I", true)
  | 5 => ("CrystalClubModel", "stand", "[I", true)
  | 6 => ("CrystalClubModel", "aerial", "[I", true)
  | 7 => ("CrystalClubModel", "ears", "[I", true)
  | 8 => ("CrystalClubModel", "s", "LCrystalClubModel$State;", true)
  | _ => ("CrystalClubModel", "ahead", "LCrystalClubModel$State;", true)
def tyX8 : Nat → FieldType := fun k => match k with
  | 0 => .int
  | 1 => .int
  | 2 => .int
  | 3 => .array .int
  | 4 => .array .int
  | 5 => .array .int
  | 6 => .array .int
  | 7 => .array .int
  | 8 => .object "CrystalClubModel$State"
  | _ => .object "CrystalClubModel$State"
abbrev wsX80 : List Cond := u_ws RX8 TX8 10
theorem nmX8 : ∀ a, a < 10 → ∀ b, b < 10 → a ≠ b → (TX8 a).2.1 ≠ (TX8 b).2.1 := by decide +kernel
theorem tyX8_ok : ∀ k, k < 10 → parseFieldDescriptor (TX8 k).2.2.1 = some (tyX8 k) := by decide +kernel
abbrev cX8_init : ByteArray := prog_9_method_1_code
def yX8_init : MethodName := ⟨RX8, "<init>", "()V"⟩
abbrev cX8_thrown : ByteArray := prog_9_method_2_code
def yX8_thrown : MethodName := ⟨RX8, "thrown", "()I"⟩
abbrev cX8_no : ByteArray := prog_9_method_3_code
def yX8_no : MethodName := ⟨RX8, "no", "(I)I"⟩
abbrev cX8_isIn : ByteArray := prog_9_method_4_code
def yX8_isIn : MethodName := ⟨RX8, "isIn", "(III)Z"⟩
abbrev cX8_isStation : ByteArray := prog_9_method_5_code
def yX8_isStation : MethodName := ⟨RX8, "isStation", "(I)Z"⟩
abbrev cX8_isMember : ByteArray := prog_9_method_6_code
def yX8_isMember : MethodName := ⟨RX8, "isMember", "(I)Z"⟩
abbrev cX8_isLine : ByteArray := prog_9_method_7_code
def yX8_isLine : MethodName := ⟨RX8, "isLine", "(II)Z"⟩
abbrev cX8_tuned : ByteArray := prog_9_method_8_code
def yX8_tuned : MethodName := ⟨RX8, "tuned", "(II)I"⟩
abbrev cX8_width : ByteArray := prog_9_method_9_code
def yX8_width : MethodName := ⟨RX8, "width", "(I)I"⟩
abbrev cX8_fading : ByteArray := prog_9_method_10_code
def yX8_fading : MethodName := ⟨RX8, "fading", "(II)I"⟩
abbrev cX8_onAir : ByteArray := prog_9_method_11_code
def yX8_onAir : MethodName := ⟨RX8, "onAir", "(I)I"⟩
abbrev cX8_reach : ByteArray := prog_9_method_12_code
def yX8_reach : MethodName := ⟨RX8, "reach", "(IIIIII)I"⟩
abbrev cX8_heard : ByteArray := prog_9_method_13_code
def yX8_heard : MethodName := ⟨RX8, "heard", "(IIIIII)I"⟩
abbrev cX8_addStation : ByteArray := prog_9_method_14_code
def yX8_addStation : MethodName := ⟨RX8, "addStation", "(IIIIII)I"⟩
abbrev cX8_join : ByteArray := prog_9_method_15_code
def yX8_join : MethodName := ⟨RX8, "join", "(II)I"⟩
abbrev cX8_turn : ByteArray := prog_9_method_16_code
def yX8_turn : MethodName := ⟨RX8, "turn", "(II)I"⟩
abbrev cX8_wind : ByteArray := prog_9_method_17_code
def yX8_wind : MethodName := ⟨RX8, "wind", "(II)I"⟩
abbrev cX8_listen : ByteArray := prog_9_method_18_code
def yX8_listen : MethodName := ⟨RX8, "listen", "(IZ)Z"⟩
abbrev cX8_renew : ByteArray := prog_9_method_19_code
def yX8_renew : MethodName := ⟨RX8, "renew", "(I)I"⟩
abbrev cX8_cards : ByteArray := prog_9_method_20_code
def yX8_cards : MethodName := ⟨RX8, "cards", "(I)I"⟩
abbrev cX8_stationTold : ByteArray := prog_9_method_21_code
def yX8_stationTold : MethodName := ⟨RX8, "stationTold", "(II)I"⟩
abbrev cX8_station : ByteArray := prog_9_method_22_code
def yX8_station : MethodName := ⟨RX8, "station", "(II)I"⟩
abbrev cX8_held : ByteArray := prog_9_method_23_code
def yX8_held : MethodName := ⟨RX8, "held", "(IZ)I"⟩
abbrev cX8_memberTold : ByteArray := prog_9_method_24_code
def yX8_memberTold : MethodName := ⟨RX8, "memberTold", "(II)I"⟩
abbrev cX8_member : ByteArray := prog_9_method_25_code
def yX8_member : MethodName := ⟨RX8, "member", "(II)I"⟩
abbrev cX8_strength : ByteArray := prog_9_method_26_code
def yX8_strength : MethodName := ⟨RX8, "strength", "(II)I"⟩
abbrev cX8_hears : ByteArray := prog_9_method_27_code
def yX8_hears : MethodName := ⟨RX8, "hears", "(I)I"⟩
abbrev cX8_log : ByteArray := prog_9_method_28_code
def yX8_log : MethodName := ⟨RX8, "log", "(III)I"⟩
abbrev cX8_write : ByteArray := prog_9_method_29_code
def yX8_write : MethodName := ⟨RX8, "write", "(II)I"⟩
abbrev cX8_pass : ByteArray := prog_9_method_30_code
def yX8_pass : MethodName := ⟨RX8, "pass", "(I)I"⟩
abbrev cX8_counted : ByteArray := prog_9_method_31_code
def yX8_counted : MethodName := ⟨RX8, "counted", "(I)I"⟩
abbrev cX8_count : ByteArray := prog_9_method_32_code
def yX8_count : MethodName := ⟨RX8, "count", "(I)I"⟩
abbrev cX8_leads : ByteArray := prog_9_method_33_code
def yX8_leads : MethodName := ⟨RX8, "leads", "(II)Z"⟩
abbrev cX8_rank : ByteArray := prog_9_method_34_code
def yX8_rank : MethodName := ⟨RX8, "rank", "(I)I"⟩
abbrev cX8_dial : ByteArray := prog_9_method_35_code
def yX8_dial : MethodName := ⟨RX8, "dial", "(II)I"⟩
abbrev cX8_next : ByteArray := prog_9_method_36_code
def yX8_next : MethodName := ⟨RX8, "next", "(II)I"⟩
abbrev cX8_apart : ByteArray := prog_9_method_37_code
def yX8_apart : MethodName := ⟨RX8, "apart", "(III)I"⟩
abbrev cX8_foresee : ByteArray := prog_9_method_38_code
def yX8_foresee : MethodName := ⟨RX8, "foresee", "(II)I"⟩
abbrev cX8_mean : ByteArray := prog_9_method_39_code
def yX8_mean : MethodName := ⟨RX8, "mean", "()D"⟩
abbrev cX8_digest : ByteArray := prog_9_method_40_code
def yX8_digest : MethodName := ⟨RX8, "digest", "()J"⟩
def RJ6 : String := "java/lang/Integer"
def TJ6 : u_T := fun k => match k with
  | _ => ("", "", "", false)
def tyJ6 : Nat → FieldType := fun k => match k with
  | _ => .int
abbrev wsJ60 : List Cond := u_ws RJ6 TJ6 0
theorem nmJ6 : ∀ a, a < 0 → ∀ b, b < 0 → a ≠ b → (TJ6 a).2.1 ≠ (TJ6 b).2.1 := by decide +kernel
theorem tyJ6_ok : ∀ k, k < 0 → parseFieldDescriptor (TJ6 k).2.2.1 = some (tyJ6 k) := by decide +kernel
abbrev cJ6_compare_7cf53 : ByteArray := prog_15_method_40_code
def yJ6_compare_7cf53 : MethodName := ⟨RJ6, "compare", "(II)I"⟩
abbrev cJ6_bitCount_0f7a4 : ByteArray := prog_15_method_49_code
def yJ6_bitCount_0f7a4 : MethodName := ⟨RJ6, "bitCount", "(I)I"⟩
def RJ9 : String := "java/lang/Math"
def TJ9 : u_T := fun k => match k with
  | _ => ("", "", "", false)
def tyJ9 : Nat → FieldType := fun k => match k with
  | _ => .int
abbrev wsJ90 : List Cond := u_ws RJ9 TJ9 0
theorem nmJ9 : ∀ a, a < 0 → ∀ b, b < 0 → a ≠ b → (TJ9 a).2.1 ≠ (TJ9 b).2.1 := by decide +kernel
theorem tyJ9_ok : ∀ k, k < 0 → parseFieldDescriptor (TJ9 k).2.2.1 = some (tyJ9 k) := by decide +kernel
abbrev cJ9_abs_0f7a4 : ByteArray := prog_16_method_59_code
def yJ9_abs_0f7a4 : MethodName := ⟨RJ9, "abs", "(I)I"⟩
abbrev cJ9_max_7cf53 : ByteArray := prog_16_method_65_code
def yJ9_max_7cf53 : MethodName := ⟨RJ9, "max", "(II)I"⟩
def RJ0 : String := "java/lang/String"
def TJ0 : u_T := fun k => match k with
  | _ => ("", "", "", false)
def tyJ0 : Nat → FieldType := fun k => match k with
  | _ => .int
abbrev wsJ00 : List Cond := u_ws RJ0 TJ0 0
theorem nmJ0 : ∀ a, a < 0 → ∀ b, b < 0 → a ≠ b → (TJ0 a).2.1 ≠ (TJ0 b).2.1 := by decide +kernel
theorem tyJ0_ok : ∀ k, k < 0 → parseFieldDescriptor (TJ0 k).2.2.1 = some (tyJ0 k) := by decide +kernel
def RJ10 : String := "java/lang/System"
def TJ10 : u_T := fun k => match k with
  | _ => ("", "", "", false)
def tyJ10 : Nat → FieldType := fun k => match k with
  | _ => .int
abbrev wsJ100 : List Cond := u_ws RJ10 TJ10 0
theorem nmJ10 : ∀ a, a < 0 → ∀ b, b < 0 → a ≠ b → (TJ10 a).2.1 ≠ (TJ10 b).2.1 := by decide +kernel
theorem tyJ10_ok : ∀ k, k < 0 → parseFieldDescriptor (TJ10 k).2.2.1 = some (tyJ10 k) := by decide +kernel
def RL : String := "CrystalClubLaw"
abbrev cL_addStation : ByteArray := method_3_code
def yL_addStation : MethodName := ⟨RL, "addStation", "(LCrystalClub;IIIIII[J)I"⟩
abbrev cL_join : ByteArray := method_4_code
def yL_join : MethodName := ⟨RL, "join", "(LCrystalClub;II[J)I"⟩
abbrev cL_turn : ByteArray := method_5_code
def yL_turn : MethodName := ⟨RL, "turn", "(LCrystalClub;II[J)I"⟩
abbrev cL_wind : ByteArray := method_6_code
def yL_wind : MethodName := ⟨RL, "wind", "(LCrystalClub;II[J)I"⟩
abbrev cL_listen : ByteArray := method_7_code
def yL_listen : MethodName := ⟨RL, "listen", "(LCrystalClub;IZ[J)I"⟩
abbrev cL_renew : ByteArray := method_8_code
def yL_renew : MethodName := ⟨RL, "renew", "(LCrystalClub;I[J)I"⟩
abbrev cL_station : ByteArray := method_9_code
def yL_station : MethodName := ⟨RL, "station", "(LCrystalClub;II[J)I"⟩
abbrev cL_member : ByteArray := method_10_code
def yL_member : MethodName := ⟨RL, "member", "(LCrystalClub;II[J)I"⟩
abbrev cL_strength : ByteArray := method_11_code
def yL_strength : MethodName := ⟨RL, "strength", "(LCrystalClub;II[J)I"⟩
abbrev cL_hears : ByteArray := method_12_code
def yL_hears : MethodName := ⟨RL, "hears", "(LCrystalClub;I[J)I"⟩
abbrev cL_log : ByteArray := method_13_code
def yL_log : MethodName := ⟨RL, "log", "(LCrystalClub;III[J)I"⟩
abbrev cL_write : ByteArray := method_14_code
def yL_write : MethodName := ⟨RL, "write", "(LCrystalClub;II[J)I"⟩
abbrev cL_pass : ByteArray := method_15_code
def yL_pass : MethodName := ⟨RL, "pass", "(LCrystalClub;I[J)I"⟩
abbrev cL_count : ByteArray := method_16_code
def yL_count : MethodName := ⟨RL, "count", "(LCrystalClub;I[J)I"⟩
abbrev cL_rank : ByteArray := method_17_code
def yL_rank : MethodName := ⟨RL, "rank", "(LCrystalClub;I[J)I"⟩
abbrev cL_dial : ByteArray := method_18_code
def yL_dial : MethodName := ⟨RL, "dial", "(LCrystalClub;II[J)I"⟩
abbrev cL_next : ByteArray := method_19_code
def yL_next : MethodName := ⟨RL, "next", "(LCrystalClub;II[J)I"⟩
abbrev cL_apart : ByteArray := method_20_code
def yL_apart : MethodName := ⟨RL, "apart", "(LCrystalClub;III[J)I"⟩
abbrev cL_foresee : ByteArray := method_21_code
def yL_foresee : MethodName := ⟨RL, "foresee", "(LCrystalClub;II[J)I"⟩
abbrev cL_law : ByteArray := code
def yL_law : MethodName := ⟨RL, "law", "([I)Z"⟩
abbrev vwCl : List vw_C := [(RX0, TX0, 7), (RX1, TX1, 6), (RX2, TX2, 4), (RX3, TX3, 3), (RX4, TX4, 6), (RX5, TX5, 3), (RX6, TX6, 3), (RX7, TX7, 9), (RX8, TX8, 10)]
end
section
theorem dX0_init_0 : decode cX0_init 0 = .ok (.aload_n 0, 1) := by decide +kernel
theorem dX0_init_1 : decode cX0_init 1 = .ok (.invokespecial 3, 3) := by decide +kernel
theorem dX0_init_4 : decode cX0_init 4 = .ok (.aload_n 0, 1) := by decide +kernel
theorem dX0_init_5 : decode cX0_init 5 = .ok (.bipush 12, 2) := by decide +kernel
theorem dX0_init_7 : decode cX0_init 7 = .ok (.anewarray 9, 3) := by decide +kernel
theorem dX0_init_10 : decode cX0_init 10 = .ok (.putfield 11, 3) := by decide +kernel
theorem dX0_init_13 : decode cX0_init 13 = .ok (.aload_n 0, 1) := by decide +kernel
theorem dX0_init_14 : decode cX0_init 14 = .ok (.bipush 8, 2) := by decide +kernel
theorem dX0_init_16 : decode cX0_init 16 = .ok (.anewarray 17, 3) := by decide +kernel
theorem dX0_init_19 : decode cX0_init 19 = .ok (.putfield 19, 3) := by decide +kernel
theorem dX0_init_22 : decode cX0_init 22 = .ok (.iconst 0, 1) := by decide +kernel
theorem dX0_init_23 : decode cX0_init 23 = .ok (.istore_n 1, 1) := by decide +kernel
theorem dX0_init_24 : decode cX0_init 24 = .ok (.iload_n 1, 1) := by decide +kernel
theorem dX0_init_25 : decode cX0_init 25 = .ok (.aload_n 0, 1) := by decide +kernel
theorem dX0_init_26 : decode cX0_init 26 = .ok (.getfield 19, 3) := by decide +kernel
theorem dX0_init_29 : decode cX0_init 29 = .ok (.arraylength, 1) := by decide +kernel
theorem dX0_init_30 : decode cX0_init 30 = .ok (.if_icmp .ge 22, 3) := by decide +kernel
theorem dX0_init_33 : decode cX0_init 33 = .ok (.aload_n 0, 1) := by decide +kernel
theorem dX0_init_34 : decode cX0_init 34 = .ok (.getfield 19, 3) := by decide +kernel
theorem dX0_init_37 : decode cX0_init 37 = .ok (.iload_n 1, 1) := by decide +kernel
theorem dX0_init_38 : decode cX0_init 38 = .ok (.new 17, 3) := by decide +kernel
theorem dX0_init_41 : decode cX0_init 41 = .ok (.dup, 1) := by decide +kernel
theorem dX0_init_42 : decode cX0_init 42 = .ok (.invokespecial 23, 3) := by decide +kernel
theorem dX0_init_45 : decode cX0_init 45 = .ok (.aastore, 1) := by decide +kernel
theorem dX0_init_46 : decode cX0_init 46 = .ok (.iinc 1 1, 3) := by decide +kernel
theorem dX0_init_49 : decode cX0_init 49 = .ok (.goto (-25), 3) := by decide +kernel
theorem dX0_init_52 : decode cX0_init 52 = .ok (.aload_n 0, 1) := by decide +kernel
theorem dX0_init_53 : decode cX0_init 53 = .ok (.new 24, 3) := by decide +kernel
theorem dX0_init_56 : decode cX0_init 56 = .ok (.dup, 1) := by decide +kernel
theorem dX0_init_57 : decode cX0_init 57 = .ok (.bipush 30, 2) := by decide +kernel
theorem dX0_init_59 : decode cX0_init 59 = .ok (.iconst 3, 1) := by decide +kernel
theorem dX0_init_60 : decode cX0_init 60 = .ok (.invokespecial 26, 3) := by decide +kernel
theorem dX0_init_63 : decode cX0_init 63 = .ok (.putfield 29, 3) := by decide +kernel
theorem dX0_init_66 : decode cX0_init 66 = .ok (.aload_n 0, 1) := by decide +kernel
theorem dX0_init_67 : decode cX0_init 67 = .ok (.new 33, 3) := by decide +kernel
theorem dX0_init_70 : decode cX0_init 70 = .ok (.dup, 1) := by decide +kernel
theorem dX0_init_71 : decode cX0_init 71 = .ok (.invokespecial 35, 3) := by decide +kernel
theorem dX0_init_74 : decode cX0_init 74 = .ok (.putfield 36, 3) := by decide +kernel
theorem dX0_init_77 : decode cX0_init 77 = .ok (.return_, 1) := by decide +kernel
theorem dX0_copyFrom_0 : decode cX0_copyFrom 0 = .ok (.aload_n 0, 1) := by decide +kernel
theorem dX0_copyFrom_1 : decode cX0_copyFrom 1 = .ok (.aload_n 1, 1) := by decide +kernel
theorem dX0_copyFrom_2 : decode cX0_copyFrom 2 = .ok (.getfield 40, 3) := by decide +kernel
theorem dX0_copyFrom_5 : decode cX0_copyFrom 5 = .ok (.putfield 40, 3) := by decide +kernel
theorem dX0_copyFrom_8 : decode cX0_copyFrom 8 = .ok (.aload_n 0, 1) := by decide +kernel
theorem dX0_copyFrom_9 : decode cX0_copyFrom 9 = .ok (.aload_n 1, 1) := by decide +kernel
theorem dX0_copyFrom_10 : decode cX0_copyFrom 10 = .ok (.getfield 44, 3) := by decide +kernel
theorem dX0_copyFrom_13 : decode cX0_copyFrom 13 = .ok (.putfield 44, 3) := by decide +kernel
theorem dX0_copyFrom_16 : decode cX0_copyFrom 16 = .ok (.iconst 0, 1) := by decide +kernel
theorem dX0_copyFrom_17 : decode cX0_copyFrom 17 = .ok (.istore_n 2, 1) := by decide +kernel
theorem dX0_copyFrom_18 : decode cX0_copyFrom 18 = .ok (.iload_n 2, 1) := by decide +kernel
theorem dX0_copyFrom_19 : decode cX0_copyFrom 19 = .ok (.aload_n 0, 1) := by decide +kernel
theorem dX0_copyFrom_20 : decode cX0_copyFrom 20 = .ok (.getfield 11, 3) := by decide +kernel
theorem dX0_copyFrom_23 : decode cX0_copyFrom 23 = .ok (.arraylength, 1) := by decide +kernel
theorem dX0_copyFrom_24 : decode cX0_copyFrom 24 = .ok (.if_icmp .ge 20, 3) := by decide +kernel
theorem dX0_copyFrom_27 : decode cX0_copyFrom 27 = .ok (.aload_n 0, 1) := by decide +kernel
theorem dX0_copyFrom_28 : decode cX0_copyFrom 28 = .ok (.getfield 11, 3) := by decide +kernel
theorem dX0_copyFrom_31 : decode cX0_copyFrom 31 = .ok (.iload_n 2, 1) := by decide +kernel
theorem dX0_copyFrom_32 : decode cX0_copyFrom 32 = .ok (.aload_n 1, 1) := by decide +kernel
theorem dX0_copyFrom_33 : decode cX0_copyFrom 33 = .ok (.iload_n 2, 1) := by decide +kernel
theorem dX0_copyFrom_34 : decode cX0_copyFrom 34 = .ok (.invokevirtual 47, 3) := by decide +kernel
theorem dX0_copyFrom_37 : decode cX0_copyFrom 37 = .ok (.aastore, 1) := by decide +kernel
theorem dX0_copyFrom_38 : decode cX0_copyFrom 38 = .ok (.iinc 2 1, 3) := by decide +kernel
theorem dX0_copyFrom_41 : decode cX0_copyFrom 41 = .ok (.goto (-23), 3) := by decide +kernel
theorem dX0_copyFrom_44 : decode cX0_copyFrom 44 = .ok (.aload_n 0, 1) := by decide +kernel
theorem dX0_copyFrom_45 : decode cX0_copyFrom 45 = .ok (.aload_n 1, 1) := by decide +kernel
theorem dX0_copyFrom_46 : decode cX0_copyFrom 46 = .ok (.getfield 51, 3) := by decide +kernel
theorem dX0_copyFrom_49 : decode cX0_copyFrom 49 = .ok (.putfield 51, 3) := by decide +kernel
theorem dX0_copyFrom_52 : decode cX0_copyFrom 52 = .ok (.iconst 0, 1) := by decide +kernel
theorem dX0_copyFrom_53 : decode cX0_copyFrom 53 = .ok (.istore_n 2, 1) := by decide +kernel
theorem dX0_copyFrom_54 : decode cX0_copyFrom 54 = .ok (.iload_n 2, 1) := by decide +kernel
theorem dX0_copyFrom_55 : decode cX0_copyFrom 55 = .ok (.aload_n 0, 1) := by decide +kernel
theorem dX0_copyFrom_56 : decode cX0_copyFrom 56 = .ok (.getfield 51, 3) := by decide +kernel
theorem dX0_copyFrom_59 : decode cX0_copyFrom 59 = .ok (.if_icmp .ge 37, 3) := by decide +kernel
theorem dX0_copyFrom_62 : decode cX0_copyFrom 62 = .ok (.aload_n 0, 1) := by decide +kernel
theorem dX0_copyFrom_63 : decode cX0_copyFrom 63 = .ok (.iload_n 2, 1) := by decide +kernel
theorem dX0_copyFrom_64 : decode cX0_copyFrom 64 = .ok (.invokevirtual 54, 3) := by decide +kernel
theorem dX0_copyFrom_67 : decode cX0_copyFrom 67 = .ok (.astore_n 3, 1) := by decide +kernel
theorem dX0_copyFrom_68 : decode cX0_copyFrom 68 = .ok (.aload_n 1, 1) := by decide +kernel
theorem dX0_copyFrom_69 : decode cX0_copyFrom 69 = .ok (.iload_n 2, 1) := by decide +kernel
theorem dX0_copyFrom_70 : decode cX0_copyFrom 70 = .ok (.invokevirtual 54, 3) := by decide +kernel
theorem dX0_copyFrom_73 : decode cX0_copyFrom 73 = .ok (.astore 4, 2) := by decide +kernel
theorem dX0_copyFrom_75 : decode cX0_copyFrom 75 = .ok (.aload_n 3, 1) := by decide +kernel
theorem dX0_copyFrom_76 : decode cX0_copyFrom 76 = .ok (.ifnull 14, 3) := by decide +kernel
theorem dX0_copyFrom_79 : decode cX0_copyFrom 79 = .ok (.aload 4, 2) := by decide +kernel
theorem dX0_copyFrom_81 : decode cX0_copyFrom 81 = .ok (.ifnull 9, 3) := by decide +kernel
theorem dX0_copyFrom_84 : decode cX0_copyFrom 84 = .ok (.aload_n 3, 1) := by decide +kernel
theorem dX0_copyFrom_85 : decode cX0_copyFrom 85 = .ok (.aload 4, 2) := by decide +kernel
theorem dX0_copyFrom_87 : decode cX0_copyFrom 87 = .ok (.invokevirtual 58, 3) := by decide +kernel
theorem dX0_copyFrom_90 : decode cX0_copyFrom 90 = .ok (.iinc 2 1, 3) := by decide +kernel
theorem dX0_copyFrom_93 : decode cX0_copyFrom 93 = .ok (.goto (-39), 3) := by decide +kernel
theorem dX0_copyFrom_96 : decode cX0_copyFrom 96 = .ok (.aload_n 0, 1) := by decide +kernel
theorem dX0_copyFrom_97 : decode cX0_copyFrom 97 = .ok (.getfield 29, 3) := by decide +kernel
theorem dX0_copyFrom_100 : decode cX0_copyFrom 100 = .ok (.aload_n 1, 1) := by decide +kernel
theorem dX0_copyFrom_101 : decode cX0_copyFrom 101 = .ok (.getfield 29, 3) := by decide +kernel
theorem dX0_copyFrom_104 : decode cX0_copyFrom 104 = .ok (.invokevirtual 62, 3) := by decide +kernel
theorem dX0_copyFrom_107 : decode cX0_copyFrom 107 = .ok (.return_, 1) := by decide +kernel
theorem dX0_stationAt_0 : decode cX0_stationAt 0 = .ok (.iload_n 1, 1) := by decide +kernel
theorem dX0_stationAt_1 : decode cX0_stationAt 1 = .ok (.ifCond .lt 24, 3) := by decide +kernel
theorem dX0_stationAt_4 : decode cX0_stationAt 4 = .ok (.iload_n 1, 1) := by decide +kernel
theorem dX0_stationAt_5 : decode cX0_stationAt 5 = .ok (.aload_n 0, 1) := by decide +kernel
theorem dX0_stationAt_6 : decode cX0_stationAt 6 = .ok (.getfield 44, 3) := by decide +kernel
theorem dX0_stationAt_9 : decode cX0_stationAt 9 = .ok (.if_icmp .ge 16, 3) := by decide +kernel
theorem dX0_stationAt_12 : decode cX0_stationAt 12 = .ok (.iload_n 1, 1) := by decide +kernel
theorem dX0_stationAt_13 : decode cX0_stationAt 13 = .ok (.aload_n 0, 1) := by decide +kernel
theorem dX0_stationAt_14 : decode cX0_stationAt 14 = .ok (.getfield 11, 3) := by decide +kernel
theorem dX0_stationAt_17 : decode cX0_stationAt 17 = .ok (.arraylength, 1) := by decide +kernel
theorem dX0_stationAt_18 : decode cX0_stationAt 18 = .ok (.if_icmp .ge 7, 3) := by decide +kernel
theorem dX0_stationAt_21 : decode cX0_stationAt 21 = .ok (.iconst 1, 1) := by decide +kernel
theorem dX0_stationAt_22 : decode cX0_stationAt 22 = .ok (.goto 4, 3) := by decide +kernel
theorem dX0_stationAt_25 : decode cX0_stationAt 25 = .ok (.iconst 0, 1) := by decide +kernel
theorem dX0_stationAt_26 : decode cX0_stationAt 26 = .ok (.istore_n 2, 1) := by decide +kernel
theorem dX0_stationAt_27 : decode cX0_stationAt 27 = .ok (.iload_n 2, 1) := by decide +kernel
theorem dX0_stationAt_28 : decode cX0_stationAt 28 = .ok (.ifCond .eq 12, 3) := by decide +kernel
theorem dX0_stationAt_31 : decode cX0_stationAt 31 = .ok (.aload_n 0, 1) := by decide +kernel
theorem dX0_stationAt_32 : decode cX0_stationAt 32 = .ok (.getfield 11, 3) := by decide +kernel
theorem dX0_stationAt_35 : decode cX0_stationAt 35 = .ok (.iload_n 1, 1) := by decide +kernel
theorem dX0_stationAt_36 : decode cX0_stationAt 36 = .ok (.aaload, 1) := by decide +kernel
theorem dX0_stationAt_37 : decode cX0_stationAt 37 = .ok (.goto 4, 3) := by decide +kernel
theorem dX0_stationAt_40 : decode cX0_stationAt 40 = .ok (.aconst_null, 1) := by decide +kernel
theorem dX0_stationAt_41 : decode cX0_stationAt 41 = .ok (.areturn, 1) := by decide +kernel
theorem dX0_memberAt_0 : decode cX0_memberAt 0 = .ok (.iload_n 1, 1) := by decide +kernel
theorem dX0_memberAt_1 : decode cX0_memberAt 1 = .ok (.ifCond .lt 24, 3) := by decide +kernel
theorem dX0_memberAt_4 : decode cX0_memberAt 4 = .ok (.iload_n 1, 1) := by decide +kernel
theorem dX0_memberAt_5 : decode cX0_memberAt 5 = .ok (.aload_n 0, 1) := by decide +kernel
theorem dX0_memberAt_6 : decode cX0_memberAt 6 = .ok (.getfield 51, 3) := by decide +kernel
theorem dX0_memberAt_9 : decode cX0_memberAt 9 = .ok (.if_icmp .ge 16, 3) := by decide +kernel
theorem dX0_memberAt_12 : decode cX0_memberAt 12 = .ok (.iload_n 1, 1) := by decide +kernel
theorem dX0_memberAt_13 : decode cX0_memberAt 13 = .ok (.aload_n 0, 1) := by decide +kernel
theorem dX0_memberAt_14 : decode cX0_memberAt 14 = .ok (.getfield 19, 3) := by decide +kernel
theorem dX0_memberAt_17 : decode cX0_memberAt 17 = .ok (.arraylength, 1) := by decide +kernel
theorem dX0_memberAt_18 : decode cX0_memberAt 18 = .ok (.if_icmp .ge 7, 3) := by decide +kernel
theorem dX0_memberAt_21 : decode cX0_memberAt 21 = .ok (.iconst 1, 1) := by decide +kernel
theorem dX0_memberAt_22 : decode cX0_memberAt 22 = .ok (.goto 4, 3) := by decide +kernel
theorem dX0_memberAt_25 : decode cX0_memberAt 25 = .ok (.iconst 0, 1) := by decide +kernel
theorem dX0_memberAt_26 : decode cX0_memberAt 26 = .ok (.istore_n 2, 1) := by decide +kernel
theorem dX0_memberAt_27 : decode cX0_memberAt 27 = .ok (.iload_n 2, 1) := by decide +kernel
theorem dX0_memberAt_28 : decode cX0_memberAt 28 = .ok (.ifCond .eq 12, 3) := by decide +kernel
theorem dX0_memberAt_31 : decode cX0_memberAt 31 = .ok (.aload_n 0, 1) := by decide +kernel
theorem dX0_memberAt_32 : decode cX0_memberAt 32 = .ok (.getfield 19, 3) := by decide +kernel
theorem dX0_memberAt_35 : decode cX0_memberAt 35 = .ok (.iload_n 1, 1) := by decide +kernel
theorem dX0_memberAt_36 : decode cX0_memberAt 36 = .ok (.aaload, 1) := by decide +kernel
theorem dX0_memberAt_37 : decode cX0_memberAt 37 = .ok (.goto 4, 3) := by decide +kernel
theorem dX0_memberAt_40 : decode cX0_memberAt 40 = .ok (.aconst_null, 1) := by decide +kernel
theorem dX0_memberAt_41 : decode cX0_memberAt 41 = .ok (.areturn, 1) := by decide +kernel
theorem dX0_found_0 : decode cX0_found 0 = .ok (.aload_n 0, 1) := by decide +kernel
theorem dX0_found_1 : decode cX0_found 1 = .ok (.getfield 44, 3) := by decide +kernel
theorem dX0_found_4 : decode cX0_found 4 = .ok (.istore_n 2, 1) := by decide +kernel
theorem dX0_found_5 : decode cX0_found 5 = .ok (.iload_n 2, 1) := by decide +kernel
theorem dX0_found_6 : decode cX0_found 6 = .ok (.ifCond .lt 29, 3) := by decide +kernel
theorem dX0_found_9 : decode cX0_found 9 = .ok (.iload_n 2, 1) := by decide +kernel
theorem dX0_found_10 : decode cX0_found 10 = .ok (.aload_n 0, 1) := by decide +kernel
theorem dX0_found_11 : decode cX0_found 11 = .ok (.getfield 11, 3) := by decide +kernel
theorem dX0_found_14 : decode cX0_found 14 = .ok (.arraylength, 1) := by decide +kernel
theorem dX0_found_15 : decode cX0_found 15 = .ok (.if_icmp .ge 20, 3) := by decide +kernel
theorem dX0_found_18 : decode cX0_found 18 = .ok (.aload_n 0, 1) := by decide +kernel
theorem dX0_found_19 : decode cX0_found 19 = .ok (.getfield 11, 3) := by decide +kernel
theorem dX0_found_22 : decode cX0_found 22 = .ok (.iload_n 2, 1) := by decide +kernel
theorem dX0_found_23 : decode cX0_found 23 = .ok (.aload_n 1, 1) := by decide +kernel
theorem dX0_found_24 : decode cX0_found 24 = .ok (.aastore, 1) := by decide +kernel
theorem dX0_found_25 : decode cX0_found 25 = .ok (.aload_n 0, 1) := by decide +kernel
theorem dX0_found_26 : decode cX0_found 26 = .ok (.dup, 1) := by decide +kernel
theorem dX0_found_27 : decode cX0_found 27 = .ok (.getfield 44, 3) := by decide +kernel
theorem dX0_found_30 : decode cX0_found 30 = .ok (.iconst 1, 1) := by decide +kernel
theorem dX0_found_31 : decode cX0_found 31 = .ok (.iadd, 1) := by decide +kernel
theorem dX0_found_32 : decode cX0_found 32 = .ok (.putfield 44, 3) := by decide +kernel
theorem dX0_found_35 : decode cX0_found 35 = .ok (.iload_n 2, 1) := by decide +kernel
theorem dX0_found_36 : decode cX0_found 36 = .ok (.ireturn, 1) := by decide +kernel
theorem dX0_admit_0 : decode cX0_admit 0 = .ok (.aload_n 0, 1) := by decide +kernel
theorem dX0_admit_1 : decode cX0_admit 1 = .ok (.getfield 51, 3) := by decide +kernel
theorem dX0_admit_4 : decode cX0_admit 4 = .ok (.istore_n 3, 1) := by decide +kernel
theorem dX0_admit_5 : decode cX0_admit 5 = .ok (.aload_n 0, 1) := by decide +kernel
theorem dX0_admit_6 : decode cX0_admit 6 = .ok (.dup, 1) := by decide +kernel
theorem dX0_admit_7 : decode cX0_admit 7 = .ok (.getfield 51, 3) := by decide +kernel
theorem dX0_admit_10 : decode cX0_admit 10 = .ok (.iconst 1, 1) := by decide +kernel
theorem dX0_admit_11 : decode cX0_admit 11 = .ok (.iadd, 1) := by decide +kernel
theorem dX0_admit_12 : decode cX0_admit 12 = .ok (.putfield 51, 3) := by decide +kernel
theorem dX0_admit_15 : decode cX0_admit 15 = .ok (.aload_n 0, 1) := by decide +kernel
theorem dX0_admit_16 : decode cX0_admit 16 = .ok (.iload_n 3, 1) := by decide +kernel
theorem dX0_admit_17 : decode cX0_admit 17 = .ok (.invokevirtual 54, 3) := by decide +kernel
theorem dX0_admit_20 : decode cX0_admit 20 = .ok (.astore 4, 2) := by decide +kernel
theorem dX0_admit_22 : decode cX0_admit 22 = .ok (.aload 4, 2) := by decide +kernel
theorem dX0_admit_24 : decode cX0_admit 24 = .ok (.ifnull 10, 3) := by decide +kernel
theorem dX0_admit_27 : decode cX0_admit 27 = .ok (.aload 4, 2) := by decide +kernel
theorem dX0_admit_29 : decode cX0_admit 29 = .ok (.iload_n 1, 1) := by decide +kernel
theorem dX0_admit_30 : decode cX0_admit 30 = .ok (.iload_n 2, 1) := by decide +kernel
theorem dX0_admit_31 : decode cX0_admit 31 = .ok (.invokevirtual 65, 3) := by decide +kernel
theorem dX0_admit_34 : decode cX0_admit 34 = .ok (.iload_n 3, 1) := by decide +kernel
theorem dX0_admit_35 : decode cX0_admit 35 = .ok (.ireturn, 1) := by decide +kernel
theorem dX0_hearingOf_0 : decode cX0_hearingOf 0 = .ok (.aload_n 0, 1) := by decide +kernel
theorem dX0_hearingOf_1 : decode cX0_hearingOf 1 = .ok (.getfield 36, 3) := by decide +kernel
theorem dX0_hearingOf_4 : decode cX0_hearingOf 4 = .ok (.invokevirtual 68, 3) := by decide +kernel
theorem dX0_hearingOf_7 : decode cX0_hearingOf 7 = .ok (.iconst 0, 1) := by decide +kernel
theorem dX0_hearingOf_8 : decode cX0_hearingOf 8 = .ok (.istore_n 3, 1) := by decide +kernel
theorem dX0_hearingOf_9 : decode cX0_hearingOf 9 = .ok (.iload_n 3, 1) := by decide +kernel
theorem dX0_hearingOf_10 : decode cX0_hearingOf 10 = .ok (.aload_n 0, 1) := by decide +kernel
theorem dX0_hearingOf_11 : decode cX0_hearingOf 11 = .ok (.getfield 44, 3) := by decide +kernel
theorem dX0_hearingOf_14 : decode cX0_hearingOf 14 = .ok (.if_icmp .ge 45, 3) := by decide +kernel
theorem dX0_hearingOf_17 : decode cX0_hearingOf 17 = .ok (.aload_n 0, 1) := by decide +kernel
theorem dX0_hearingOf_18 : decode cX0_hearingOf 18 = .ok (.iload_n 3, 1) := by decide +kernel
theorem dX0_hearingOf_19 : decode cX0_hearingOf 19 = .ok (.invokevirtual 47, 3) := by decide +kernel
theorem dX0_hearingOf_22 : decode cX0_hearingOf 22 = .ok (.astore 4, 2) := by decide +kernel
theorem dX0_hearingOf_24 : decode cX0_hearingOf 24 = .ok (.aload 4, 2) := by decide +kernel
theorem dX0_hearingOf_26 : decode cX0_hearingOf 26 = .ok (.ifnull 27, 3) := by decide +kernel
theorem dX0_hearingOf_29 : decode cX0_hearingOf 29 = .ok (.aload 4, 2) := by decide +kernel
theorem dX0_hearingOf_31 : decode cX0_hearingOf 31 = .ok (.iload_n 2, 1) := by decide +kernel
theorem dX0_hearingOf_32 : decode cX0_hearingOf 32 = .ok (.invokevirtual 71, 3) := by decide +kernel
theorem dX0_hearingOf_35 : decode cX0_hearingOf 35 = .ok (.ifCond .eq 18, 3) := by decide +kernel
theorem dX0_hearingOf_38 : decode cX0_hearingOf 38 = .ok (.aload_n 0, 1) := by decide +kernel
theorem dX0_hearingOf_39 : decode cX0_hearingOf 39 = .ok (.getfield 36, 3) := by decide +kernel
theorem dX0_hearingOf_42 : decode cX0_hearingOf 42 = .ok (.iload_n 3, 1) := by decide +kernel
theorem dX0_hearingOf_43 : decode cX0_hearingOf 43 = .ok (.aload_n 1, 1) := by decide +kernel
theorem dX0_hearingOf_44 : decode cX0_hearingOf 44 = .ok (.aload 4, 2) := by decide +kernel
theorem dX0_hearingOf_46 : decode cX0_hearingOf 46 = .ok (.iload_n 2, 1) := by decide +kernel
theorem dX0_hearingOf_47 : decode cX0_hearingOf 47 = .ok (.invokevirtual 75, 3) := by decide +kernel
theorem dX0_hearingOf_50 : decode cX0_hearingOf 50 = .ok (.invokevirtual 81, 3) := by decide +kernel
theorem dX0_hearingOf_53 : decode cX0_hearingOf 53 = .ok (.iinc 3 1, 3) := by decide +kernel
theorem dX0_hearingOf_56 : decode cX0_hearingOf 56 = .ok (.goto (-47), 3) := by decide +kernel
theorem dX0_hearingOf_59 : decode cX0_hearingOf 59 = .ok (.aload_n 0, 1) := by decide +kernel
theorem dX0_hearingOf_60 : decode cX0_hearingOf 60 = .ok (.getfield 36, 3) := by decide +kernel
theorem dX0_hearingOf_63 : decode cX0_hearingOf 63 = .ok (.areturn, 1) := by decide +kernel
theorem dX0_bestDial_0 : decode cX0_bestDial 0 = .ok (.iconst (-1), 1) := by decide +kernel
theorem dX0_bestDial_1 : decode cX0_bestDial 1 = .ok (.istore_n 3, 1) := by decide +kernel
theorem dX0_bestDial_2 : decode cX0_bestDial 2 = .ok (.iconst 0, 1) := by decide +kernel
theorem dX0_bestDial_3 : decode cX0_bestDial 3 = .ok (.istore 4, 2) := by decide +kernel
theorem dX0_bestDial_5 : decode cX0_bestDial 5 = .ok (.iconst 0, 1) := by decide +kernel
theorem dX0_bestDial_6 : decode cX0_bestDial 6 = .ok (.istore 5, 2) := by decide +kernel
theorem dX0_bestDial_8 : decode cX0_bestDial 8 = .ok (.iload 5, 2) := by decide +kernel
theorem dX0_bestDial_10 : decode cX0_bestDial 10 = .ok (.bipush 100, 2) := by decide +kernel
theorem dX0_bestDial_12 : decode cX0_bestDial 12 = .ok (.if_icmp .gt 59, 3) := by decide +kernel
theorem dX0_bestDial_15 : decode cX0_bestDial 15 = .ok (.aload_n 1, 1) := by decide +kernel
theorem dX0_bestDial_16 : decode cX0_bestDial 16 = .ok (.aload_n 1, 1) := by decide +kernel
theorem dX0_bestDial_17 : decode cX0_bestDial 17 = .ok (.getfield 84, 3) := by decide +kernel
theorem dX0_bestDial_20 : decode cX0_bestDial 20 = .ok (.iload 5, 2) := by decide +kernel
theorem dX0_bestDial_22 : decode cX0_bestDial 22 = .ok (.invokevirtual 87, 3) := by decide +kernel
theorem dX0_bestDial_25 : decode cX0_bestDial 25 = .ok (.aload_n 0, 1) := by decide +kernel
theorem dX0_bestDial_26 : decode cX0_bestDial 26 = .ok (.aload_n 1, 1) := by decide +kernel
theorem dX0_bestDial_27 : decode cX0_bestDial 27 = .ok (.aload_n 0, 1) := by decide +kernel
theorem dX0_bestDial_28 : decode cX0_bestDial 28 = .ok (.getfield 40, 3) := by decide +kernel
theorem dX0_bestDial_31 : decode cX0_bestDial 31 = .ok (.invokevirtual 90, 3) := by decide +kernel
theorem dX0_bestDial_34 : decode cX0_bestDial 34 = .ok (.astore 6, 2) := by decide +kernel
theorem dX0_bestDial_36 : decode cX0_bestDial 36 = .ok (.aload 6, 2) := by decide +kernel
theorem dX0_bestDial_38 : decode cX0_bestDial 38 = .ok (.invokevirtual 94, 3) := by decide +kernel
theorem dX0_bestDial_41 : decode cX0_bestDial 41 = .ok (.iload_n 2, 1) := by decide +kernel
theorem dX0_bestDial_42 : decode cX0_bestDial 42 = .ok (.if_icmp .ne 23, 3) := by decide +kernel
theorem dX0_bestDial_45 : decode cX0_bestDial 45 = .ok (.aload 6, 2) := by decide +kernel
theorem dX0_bestDial_47 : decode cX0_bestDial 47 = .ok (.getfield 98, 3) := by decide +kernel
theorem dX0_bestDial_50 : decode cX0_bestDial 50 = .ok (.iload 4, 2) := by decide +kernel
theorem dX0_bestDial_52 : decode cX0_bestDial 52 = .ok (.if_icmp .le 13, 3) := by decide +kernel
theorem dX0_bestDial_55 : decode cX0_bestDial 55 = .ok (.aload 6, 2) := by decide +kernel
theorem dX0_bestDial_57 : decode cX0_bestDial 57 = .ok (.getfield 98, 3) := by decide +kernel
theorem dX0_bestDial_60 : decode cX0_bestDial 60 = .ok (.istore 4, 2) := by decide +kernel
theorem dX0_bestDial_62 : decode cX0_bestDial 62 = .ok (.iload 5, 2) := by decide +kernel
theorem dX0_bestDial_64 : decode cX0_bestDial 64 = .ok (.istore_n 3, 1) := by decide +kernel
theorem dX0_bestDial_65 : decode cX0_bestDial 65 = .ok (.iinc 5 1, 3) := by decide +kernel
theorem dX0_bestDial_68 : decode cX0_bestDial 68 = .ok (.goto (-60), 3) := by decide +kernel
theorem dX0_bestDial_71 : decode cX0_bestDial 71 = .ok (.iload_n 3, 1) := by decide +kernel
theorem dX0_bestDial_72 : decode cX0_bestDial 72 = .ok (.ireturn, 1) := by decide +kernel
theorem dX0_keepsApart_0 : decode cX0_keepsApart 0 = .ok (.iconst 0, 1) := by decide +kernel
theorem dX0_keepsApart_1 : decode cX0_keepsApart 1 = .ok (.istore 5, 2) := by decide +kernel
theorem dX0_keepsApart_3 : decode cX0_keepsApart 3 = .ok (.iconst 0, 1) := by decide +kernel
theorem dX0_keepsApart_4 : decode cX0_keepsApart 4 = .ok (.istore 6, 2) := by decide +kernel
theorem dX0_keepsApart_6 : decode cX0_keepsApart 6 = .ok (.iconst 0, 1) := by decide +kernel
theorem dX0_keepsApart_7 : decode cX0_keepsApart 7 = .ok (.istore 7, 2) := by decide +kernel
theorem dX0_keepsApart_9 : decode cX0_keepsApart 9 = .ok (.iload 7, 2) := by decide +kernel
theorem dX0_keepsApart_11 : decode cX0_keepsApart 11 = .ok (.bipush 100, 2) := by decide +kernel
theorem dX0_keepsApart_13 : decode cX0_keepsApart 13 = .ok (.if_icmp .gt 112, 3) := by decide +kernel
theorem dX0_keepsApart_16 : decode cX0_keepsApart 16 = .ok (.iload 5, 2) := by decide +kernel
theorem dX0_keepsApart_18 : decode cX0_keepsApart 18 = .ok (.ifCond .eq 8, 3) := by decide +kernel
theorem dX0_keepsApart_21 : decode cX0_keepsApart 21 = .ok (.iload 6, 2) := by decide +kernel
theorem dX0_keepsApart_23 : decode cX0_keepsApart 23 = .ok (.ifCond .ne 102, 3) := by decide +kernel
theorem dX0_keepsApart_26 : decode cX0_keepsApart 26 = .ok (.aload_n 1, 1) := by decide +kernel
theorem dX0_keepsApart_27 : decode cX0_keepsApart 27 = .ok (.iload_n 2, 1) := by decide +kernel
theorem dX0_keepsApart_28 : decode cX0_keepsApart 28 = .ok (.iload 7, 2) := by decide +kernel
theorem dX0_keepsApart_30 : decode cX0_keepsApart 30 = .ok (.invokevirtual 87, 3) := by decide +kernel
theorem dX0_keepsApart_33 : decode cX0_keepsApart 33 = .ok (.aload_n 0, 1) := by decide +kernel
theorem dX0_keepsApart_34 : decode cX0_keepsApart 34 = .ok (.getfield 36, 3) := by decide +kernel
theorem dX0_keepsApart_37 : decode cX0_keepsApart 37 = .ok (.invokevirtual 68, 3) := by decide +kernel
theorem dX0_keepsApart_40 : decode cX0_keepsApart 40 = .ok (.aload_n 0, 1) := by decide +kernel
theorem dX0_keepsApart_41 : decode cX0_keepsApart 41 = .ok (.getfield 36, 3) := by decide +kernel
theorem dX0_keepsApart_44 : decode cX0_keepsApart 44 = .ok (.iconst 0, 1) := by decide +kernel
theorem dX0_keepsApart_45 : decode cX0_keepsApart 45 = .ok (.aload_n 1, 1) := by decide +kernel
theorem dX0_keepsApart_46 : decode cX0_keepsApart 46 = .ok (.aload_n 3, 1) := by decide +kernel
theorem dX0_keepsApart_47 : decode cX0_keepsApart 47 = .ok (.aload_n 0, 1) := by decide +kernel
theorem dX0_keepsApart_48 : decode cX0_keepsApart 48 = .ok (.getfield 40, 3) := by decide +kernel
theorem dX0_keepsApart_51 : decode cX0_keepsApart 51 = .ok (.invokevirtual 75, 3) := by decide +kernel
theorem dX0_keepsApart_54 : decode cX0_keepsApart 54 = .ok (.invokevirtual 81, 3) := by decide +kernel
theorem dX0_keepsApart_57 : decode cX0_keepsApart 57 = .ok (.aload_n 0, 1) := by decide +kernel
theorem dX0_keepsApart_58 : decode cX0_keepsApart 58 = .ok (.getfield 36, 3) := by decide +kernel
theorem dX0_keepsApart_61 : decode cX0_keepsApart 61 = .ok (.iconst 1, 1) := by decide +kernel
theorem dX0_keepsApart_62 : decode cX0_keepsApart 62 = .ok (.aload_n 1, 1) := by decide +kernel
theorem dX0_keepsApart_63 : decode cX0_keepsApart 63 = .ok (.aload 4, 2) := by decide +kernel
theorem dX0_keepsApart_65 : decode cX0_keepsApart 65 = .ok (.aload_n 0, 1) := by decide +kernel
theorem dX0_keepsApart_66 : decode cX0_keepsApart 66 = .ok (.getfield 40, 3) := by decide +kernel
theorem dX0_keepsApart_69 : decode cX0_keepsApart 69 = .ok (.invokevirtual 75, 3) := by decide +kernel
theorem dX0_keepsApart_72 : decode cX0_keepsApart 72 = .ok (.invokevirtual 81, 3) := by decide +kernel
theorem dX0_keepsApart_75 : decode cX0_keepsApart 75 = .ok (.aload_n 0, 1) := by decide +kernel
theorem dX0_keepsApart_76 : decode cX0_keepsApart 76 = .ok (.getfield 36, 3) := by decide +kernel
theorem dX0_keepsApart_79 : decode cX0_keepsApart 79 = .ok (.invokevirtual 94, 3) := by decide +kernel
theorem dX0_keepsApart_82 : decode cX0_keepsApart 82 = .ok (.istore 8, 2) := by decide +kernel
theorem dX0_keepsApart_84 : decode cX0_keepsApart 84 = .ok (.iload 5, 2) := by decide +kernel
theorem dX0_keepsApart_86 : decode cX0_keepsApart 86 = .ok (.ifCond .ne 8, 3) := by decide +kernel
theorem dX0_keepsApart_89 : decode cX0_keepsApart 89 = .ok (.iload 8, 2) := by decide +kernel
theorem dX0_keepsApart_91 : decode cX0_keepsApart 91 = .ok (.ifCond .ne 7, 3) := by decide +kernel
theorem dX0_keepsApart_94 : decode cX0_keepsApart 94 = .ok (.iconst 1, 1) := by decide +kernel
theorem dX0_keepsApart_95 : decode cX0_keepsApart 95 = .ok (.goto 4, 3) := by decide +kernel
theorem dX0_keepsApart_98 : decode cX0_keepsApart 98 = .ok (.iconst 0, 1) := by decide +kernel
theorem dX0_keepsApart_99 : decode cX0_keepsApart 99 = .ok (.istore 5, 2) := by decide +kernel
theorem dX0_keepsApart_101 : decode cX0_keepsApart 101 = .ok (.iload 6, 2) := by decide +kernel
theorem dX0_keepsApart_103 : decode cX0_keepsApart 103 = .ok (.ifCond .ne 9, 3) := by decide +kernel
theorem dX0_keepsApart_106 : decode cX0_keepsApart 106 = .ok (.iload 8, 2) := by decide +kernel
theorem dX0_keepsApart_108 : decode cX0_keepsApart 108 = .ok (.iconst 1, 1) := by decide +kernel
theorem dX0_keepsApart_109 : decode cX0_keepsApart 109 = .ok (.if_icmp .ne 7, 3) := by decide +kernel
theorem dX0_keepsApart_112 : decode cX0_keepsApart 112 = .ok (.iconst 1, 1) := by decide +kernel
theorem dX0_keepsApart_113 : decode cX0_keepsApart 113 = .ok (.goto 4, 3) := by decide +kernel
theorem dX0_keepsApart_116 : decode cX0_keepsApart 116 = .ok (.iconst 0, 1) := by decide +kernel
theorem dX0_keepsApart_117 : decode cX0_keepsApart 117 = .ok (.istore 6, 2) := by decide +kernel
theorem dX0_keepsApart_119 : decode cX0_keepsApart 119 = .ok (.iinc 7 1, 3) := by decide +kernel
theorem dX0_keepsApart_122 : decode cX0_keepsApart 122 = .ok (.goto (-113), 3) := by decide +kernel
theorem dX0_keepsApart_125 : decode cX0_keepsApart 125 = .ok (.iload 5, 2) := by decide +kernel
theorem dX0_keepsApart_127 : decode cX0_keepsApart 127 = .ok (.ifCond .eq 12, 3) := by decide +kernel
theorem dX0_keepsApart_130 : decode cX0_keepsApart 130 = .ok (.iload 6, 2) := by decide +kernel
theorem dX0_keepsApart_132 : decode cX0_keepsApart 132 = .ok (.ifCond .eq 7, 3) := by decide +kernel
theorem dX0_keepsApart_135 : decode cX0_keepsApart 135 = .ok (.iconst 1, 1) := by decide +kernel
theorem dX0_keepsApart_136 : decode cX0_keepsApart 136 = .ok (.goto 4, 3) := by decide +kernel
theorem dX0_keepsApart_139 : decode cX0_keepsApart 139 = .ok (.iconst 0, 1) := by decide +kernel
theorem dX0_keepsApart_140 : decode cX0_keepsApart 140 = .ok (.ireturn, 1) := by decide +kernel
theorem dX0_passHours_0 : decode cX0_passHours 0 = .ok (.iconst 0, 1) := by decide +kernel
theorem dX0_passHours_1 : decode cX0_passHours 1 = .ok (.istore_n 2, 1) := by decide +kernel
theorem dX0_passHours_2 : decode cX0_passHours 2 = .ok (.iconst 0, 1) := by decide +kernel
theorem dX0_passHours_3 : decode cX0_passHours 3 = .ok (.istore_n 3, 1) := by decide +kernel
theorem dX0_passHours_4 : decode cX0_passHours 4 = .ok (.iload_n 3, 1) := by decide +kernel
theorem dX0_passHours_5 : decode cX0_passHours 5 = .ok (.iload_n 1, 1) := by decide +kernel
theorem dX0_passHours_6 : decode cX0_passHours 6 = .ok (.if_icmp .ge 34, 3) := by decide +kernel
theorem dX0_passHours_9 : decode cX0_passHours 9 = .ok (.iload_n 2, 1) := by decide +kernel
theorem dX0_passHours_10 : decode cX0_passHours 10 = .ok (.aload_n 0, 1) := by decide +kernel
theorem dX0_passHours_11 : decode cX0_passHours 11 = .ok (.invokevirtual 101, 3) := by decide +kernel
theorem dX0_passHours_14 : decode cX0_passHours 14 = .ok (.iadd, 1) := by decide +kernel
theorem dX0_passHours_15 : decode cX0_passHours 15 = .ok (.istore_n 2, 1) := by decide +kernel
theorem dX0_passHours_16 : decode cX0_passHours 16 = .ok (.aload_n 0, 1) := by decide +kernel
theorem dX0_passHours_17 : decode cX0_passHours 17 = .ok (.invokevirtual 104, 3) := by decide +kernel
theorem dX0_passHours_20 : decode cX0_passHours 20 = .ok (.aload_n 0, 1) := by decide +kernel
theorem dX0_passHours_21 : decode cX0_passHours 21 = .ok (.invokevirtual 107, 3) := by decide +kernel
theorem dX0_passHours_24 : decode cX0_passHours 24 = .ok (.aload_n 0, 1) := by decide +kernel
theorem dX0_passHours_25 : decode cX0_passHours 25 = .ok (.dup, 1) := by decide +kernel
theorem dX0_passHours_26 : decode cX0_passHours 26 = .ok (.getfield 40, 3) := by decide +kernel
theorem dX0_passHours_29 : decode cX0_passHours 29 = .ok (.iconst 1, 1) := by decide +kernel
theorem dX0_passHours_30 : decode cX0_passHours 30 = .ok (.iadd, 1) := by decide +kernel
theorem dX0_passHours_31 : decode cX0_passHours 31 = .ok (.putfield 40, 3) := by decide +kernel
theorem dX0_passHours_34 : decode cX0_passHours 34 = .ok (.iinc 3 1, 3) := by decide +kernel
theorem dX0_passHours_37 : decode cX0_passHours 37 = .ok (.goto (-33), 3) := by decide +kernel
theorem dX0_passHours_40 : decode cX0_passHours 40 = .ok (.iload_n 2, 1) := by decide +kernel
theorem dX0_passHours_41 : decode cX0_passHours 41 = .ok (.ireturn, 1) := by decide +kernel
theorem dX0_writeLines_0 : decode cX0_writeLines 0 = .ok (.iconst 0, 1) := by decide +kernel
theorem dX0_writeLines_1 : decode cX0_writeLines 1 = .ok (.istore_n 1, 1) := by decide +kernel
theorem dX0_writeLines_2 : decode cX0_writeLines 2 = .ok (.iconst 0, 1) := by decide +kernel
theorem dX0_writeLines_3 : decode cX0_writeLines 3 = .ok (.istore_n 2, 1) := by decide +kernel
theorem dX0_writeLines_4 : decode cX0_writeLines 4 = .ok (.iload_n 2, 1) := by decide +kernel
theorem dX0_writeLines_5 : decode cX0_writeLines 5 = .ok (.aload_n 0, 1) := by decide +kernel
theorem dX0_writeLines_6 : decode cX0_writeLines 6 = .ok (.getfield 51, 3) := by decide +kernel
theorem dX0_writeLines_9 : decode cX0_writeLines 9 = .ok (.if_icmp .ge 47, 3) := by decide +kernel
theorem dX0_writeLines_12 : decode cX0_writeLines 12 = .ok (.aload_n 0, 1) := by decide +kernel
theorem dX0_writeLines_13 : decode cX0_writeLines 13 = .ok (.iload_n 2, 1) := by decide +kernel
theorem dX0_writeLines_14 : decode cX0_writeLines 14 = .ok (.invokevirtual 54, 3) := by decide +kernel
theorem dX0_writeLines_17 : decode cX0_writeLines 17 = .ok (.astore_n 3, 1) := by decide +kernel
theorem dX0_writeLines_18 : decode cX0_writeLines 18 = .ok (.aload_n 3, 1) := by decide +kernel
theorem dX0_writeLines_19 : decode cX0_writeLines 19 = .ok (.ifnull 31, 3) := by decide +kernel
theorem dX0_writeLines_22 : decode cX0_writeLines 22 = .ok (.aload_n 3, 1) := by decide +kernel
theorem dX0_writeLines_23 : decode cX0_writeLines 23 = .ok (.getfield 110, 3) := by decide +kernel
theorem dX0_writeLines_26 : decode cX0_writeLines 26 = .ok (.ifCond .eq 24, 3) := by decide +kernel
theorem dX0_writeLines_29 : decode cX0_writeLines 29 = .ok (.aload_n 3, 1) := by decide +kernel
theorem dX0_writeLines_30 : decode cX0_writeLines 30 = .ok (.getfield 114, 3) := by decide +kernel
theorem dX0_writeLines_33 : decode cX0_writeLines 33 = .ok (.invokevirtual 117, 3) := by decide +kernel
theorem dX0_writeLines_36 : decode cX0_writeLines 36 = .ok (.ifCond .ne 14, 3) := by decide +kernel
theorem dX0_writeLines_39 : decode cX0_writeLines 39 = .ok (.aload_n 0, 1) := by decide +kernel
theorem dX0_writeLines_40 : decode cX0_writeLines 40 = .ok (.aload_n 3, 1) := by decide +kernel
theorem dX0_writeLines_41 : decode cX0_writeLines 41 = .ok (.invokevirtual 121, 3) := by decide +kernel
theorem dX0_writeLines_44 : decode cX0_writeLines 44 = .ok (.ifCond .eq 6, 3) := by decide +kernel
theorem dX0_writeLines_47 : decode cX0_writeLines 47 = .ok (.iinc 1 1, 3) := by decide +kernel
theorem dX0_writeLines_50 : decode cX0_writeLines 50 = .ok (.iinc 2 1, 3) := by decide +kernel
theorem dX0_writeLines_53 : decode cX0_writeLines 53 = .ok (.goto (-49), 3) := by decide +kernel
theorem dX0_writeLines_56 : decode cX0_writeLines 56 = .ok (.iload_n 1, 1) := by decide +kernel
theorem dX0_writeLines_57 : decode cX0_writeLines 57 = .ok (.ireturn, 1) := by decide +kernel
theorem dX0_writeLine_0 : decode cX0_writeLine 0 = .ok (.aload_n 0, 1) := by decide +kernel
theorem dX0_writeLine_1 : decode cX0_writeLine 1 = .ok (.aload_n 1, 1) := by decide +kernel
theorem dX0_writeLine_2 : decode cX0_writeLine 2 = .ok (.getfield 125, 3) := by decide +kernel
theorem dX0_writeLine_5 : decode cX0_writeLine 5 = .ok (.aload_n 0, 1) := by decide +kernel
theorem dX0_writeLine_6 : decode cX0_writeLine 6 = .ok (.getfield 40, 3) := by decide +kernel
theorem dX0_writeLine_9 : decode cX0_writeLine 9 = .ok (.invokevirtual 90, 3) := by decide +kernel
theorem dX0_writeLine_12 : decode cX0_writeLine 12 = .ok (.astore_n 2, 1) := by decide +kernel
theorem dX0_writeLine_13 : decode cX0_writeLine 13 = .ok (.aload_n 2, 1) := by decide +kernel
theorem dX0_writeLine_14 : decode cX0_writeLine 14 = .ok (.invokevirtual 94, 3) := by decide +kernel
theorem dX0_writeLine_17 : decode cX0_writeLine 17 = .ok (.istore_n 3, 1) := by decide +kernel
theorem dX0_writeLine_18 : decode cX0_writeLine 18 = .ok (.iload_n 3, 1) := by decide +kernel
theorem dX0_writeLine_19 : decode cX0_writeLine 19 = .ok (.ifCond .lt 18, 3) := by decide +kernel
theorem dX0_writeLine_22 : decode cX0_writeLine 22 = .ok (.aload_n 1, 1) := by decide +kernel
theorem dX0_writeLine_23 : decode cX0_writeLine 23 = .ok (.iload_n 3, 1) := by decide +kernel
theorem dX0_writeLine_24 : decode cX0_writeLine 24 = .ok (.aload_n 0, 1) := by decide +kernel
theorem dX0_writeLine_25 : decode cX0_writeLine 25 = .ok (.getfield 40, 3) := by decide +kernel
theorem dX0_writeLine_28 : decode cX0_writeLine 28 = .ok (.bipush 24, 2) := by decide +kernel
theorem dX0_writeLine_30 : decode cX0_writeLine 30 = .ok (.idiv, 1) := by decide +kernel
theorem dX0_writeLine_31 : decode cX0_writeLine 31 = .ok (.invokevirtual 129, 3) := by decide +kernel
theorem dX0_writeLine_34 : decode cX0_writeLine 34 = .ok (.ifCond .eq 5, 3) := by decide +kernel
theorem dX0_writeLine_37 : decode cX0_writeLine 37 = .ok (.iconst 0, 1) := by decide +kernel
theorem dX0_writeLine_38 : decode cX0_writeLine 38 = .ok (.ireturn, 1) := by decide +kernel
theorem dX0_writeLine_39 : decode cX0_writeLine 39 = .ok (.aload_n 1, 1) := by decide +kernel
theorem dX0_writeLine_40 : decode cX0_writeLine 40 = .ok (.aload_n 0, 1) := by decide +kernel
theorem dX0_writeLine_41 : decode cX0_writeLine 41 = .ok (.getfield 40, 3) := by decide +kernel
theorem dX0_writeLine_44 : decode cX0_writeLine 44 = .ok (.iload_n 3, 1) := by decide +kernel
theorem dX0_writeLine_45 : decode cX0_writeLine 45 = .ok (.aload_n 2, 1) := by decide +kernel
theorem dX0_writeLine_46 : decode cX0_writeLine 46 = .ok (.getfield 98, 3) := by decide +kernel
theorem dX0_writeLine_49 : decode cX0_writeLine 49 = .ok (.invokevirtual 133, 3) := by decide +kernel
theorem dX0_writeLine_52 : decode cX0_writeLine 52 = .ok (.iconst 1, 1) := by decide +kernel
theorem dX0_writeLine_53 : decode cX0_writeLine 53 = .ok (.ireturn, 1) := by decide +kernel
theorem dX0_wearCrystals_0 : decode cX0_wearCrystals 0 = .ok (.aload_n 0, 1) := by decide +kernel
theorem dX0_wearCrystals_1 : decode cX0_wearCrystals 1 = .ok (.getfield 40, 3) := by decide +kernel
theorem dX0_wearCrystals_4 : decode cX0_wearCrystals 4 = .ok (.bipush 6, 2) := by decide +kernel
theorem dX0_wearCrystals_6 : decode cX0_wearCrystals 6 = .ok (.irem, 1) := by decide +kernel
theorem dX0_wearCrystals_7 : decode cX0_wearCrystals 7 = .ok (.ifCond .eq 4, 3) := by decide +kernel
theorem dX0_wearCrystals_10 : decode cX0_wearCrystals 10 = .ok (.return_, 1) := by decide +kernel
theorem dX0_wearCrystals_11 : decode cX0_wearCrystals 11 = .ok (.iconst 0, 1) := by decide +kernel
theorem dX0_wearCrystals_12 : decode cX0_wearCrystals 12 = .ok (.istore_n 1, 1) := by decide +kernel
theorem dX0_wearCrystals_13 : decode cX0_wearCrystals 13 = .ok (.iload_n 1, 1) := by decide +kernel
theorem dX0_wearCrystals_14 : decode cX0_wearCrystals 14 = .ok (.aload_n 0, 1) := by decide +kernel
theorem dX0_wearCrystals_15 : decode cX0_wearCrystals 15 = .ok (.getfield 51, 3) := by decide +kernel
theorem dX0_wearCrystals_18 : decode cX0_wearCrystals 18 = .ok (.if_icmp .ge 23, 3) := by decide +kernel
theorem dX0_wearCrystals_21 : decode cX0_wearCrystals 21 = .ok (.aload_n 0, 1) := by decide +kernel
theorem dX0_wearCrystals_22 : decode cX0_wearCrystals 22 = .ok (.iload_n 1, 1) := by decide +kernel
theorem dX0_wearCrystals_23 : decode cX0_wearCrystals 23 = .ok (.invokevirtual 54, 3) := by decide +kernel
theorem dX0_wearCrystals_26 : decode cX0_wearCrystals 26 = .ok (.astore_n 2, 1) := by decide +kernel
theorem dX0_wearCrystals_27 : decode cX0_wearCrystals 27 = .ok (.aload_n 2, 1) := by decide +kernel
theorem dX0_wearCrystals_28 : decode cX0_wearCrystals 28 = .ok (.ifnull 7, 3) := by decide +kernel
theorem dX0_wearCrystals_31 : decode cX0_wearCrystals 31 = .ok (.aload_n 2, 1) := by decide +kernel
theorem dX0_wearCrystals_32 : decode cX0_wearCrystals 32 = .ok (.invokevirtual 137, 3) := by decide +kernel
theorem dX0_wearCrystals_35 : decode cX0_wearCrystals 35 = .ok (.iinc 1 1, 3) := by decide +kernel
theorem dX0_wearCrystals_38 : decode cX0_wearCrystals 38 = .ok (.goto (-25), 3) := by decide +kernel
theorem dX0_wearCrystals_41 : decode cX0_wearCrystals 41 = .ok (.return_, 1) := by decide +kernel
theorem dX0_answerLetters_0 : decode cX0_answerLetters 0 = .ok (.iconst 0, 1) := by decide +kernel
theorem dX0_answerLetters_1 : decode cX0_answerLetters 1 = .ok (.istore_n 1, 1) := by decide +kernel
theorem dX0_answerLetters_2 : decode cX0_answerLetters 2 = .ok (.iconst 0, 1) := by decide +kernel
theorem dX0_answerLetters_3 : decode cX0_answerLetters 3 = .ok (.istore_n 2, 1) := by decide +kernel
theorem dX0_answerLetters_4 : decode cX0_answerLetters 4 = .ok (.iload_n 2, 1) := by decide +kernel
theorem dX0_answerLetters_5 : decode cX0_answerLetters 5 = .ok (.aload_n 0, 1) := by decide +kernel
theorem dX0_answerLetters_6 : decode cX0_answerLetters 6 = .ok (.getfield 29, 3) := by decide +kernel
theorem dX0_answerLetters_9 : decode cX0_answerLetters 9 = .ok (.getfield 140, 3) := by decide +kernel
theorem dX0_answerLetters_12 : decode cX0_answerLetters 12 = .ok (.if_icmp .ge 62, 3) := by decide +kernel
theorem dX0_answerLetters_15 : decode cX0_answerLetters 15 = .ok (.aload_n 0, 1) := by decide +kernel
theorem dX0_answerLetters_16 : decode cX0_answerLetters 16 = .ok (.getfield 29, 3) := by decide +kernel
theorem dX0_answerLetters_19 : decode cX0_answerLetters 19 = .ok (.iload_n 2, 1) := by decide +kernel
theorem dX0_answerLetters_20 : decode cX0_answerLetters 20 = .ok (.iconst 2, 1) := by decide +kernel
theorem dX0_answerLetters_21 : decode cX0_answerLetters 21 = .ok (.invokevirtual 143, 3) := by decide +kernel
theorem dX0_answerLetters_24 : decode cX0_answerLetters 24 = .ok (.aload_n 0, 1) := by decide +kernel
theorem dX0_answerLetters_25 : decode cX0_answerLetters 25 = .ok (.getfield 40, 3) := by decide +kernel
theorem dX0_answerLetters_28 : decode cX0_answerLetters 28 = .ok (.if_icmp .le 18, 3) := by decide +kernel
theorem dX0_answerLetters_31 : decode cX0_answerLetters 31 = .ok (.aload_n 0, 1) := by decide +kernel
theorem dX0_answerLetters_32 : decode cX0_answerLetters 32 = .ok (.getfield 29, 3) := by decide +kernel
theorem dX0_answerLetters_35 : decode cX0_answerLetters 35 = .ok (.iload_n 2, 1) := by decide +kernel
theorem dX0_answerLetters_36 : decode cX0_answerLetters 36 = .ok (.iload_n 1, 1) := by decide +kernel
theorem dX0_answerLetters_37 : decode cX0_answerLetters 37 = .ok (.invokevirtual 147, 3) := by decide +kernel
theorem dX0_answerLetters_40 : decode cX0_answerLetters 40 = .ok (.iinc 1 1, 3) := by decide +kernel
theorem dX0_answerLetters_43 : decode cX0_answerLetters 43 = .ok (.goto 25, 3) := by decide +kernel
theorem dX0_answerLetters_46 : decode cX0_answerLetters 46 = .ok (.aload_n 0, 1) := by decide +kernel
theorem dX0_answerLetters_47 : decode cX0_answerLetters 47 = .ok (.aload_n 0, 1) := by decide +kernel
theorem dX0_answerLetters_48 : decode cX0_answerLetters 48 = .ok (.getfield 29, 3) := by decide +kernel
theorem dX0_answerLetters_51 : decode cX0_answerLetters 51 = .ok (.iload_n 2, 1) := by decide +kernel
theorem dX0_answerLetters_52 : decode cX0_answerLetters 52 = .ok (.iconst 0, 1) := by decide +kernel
theorem dX0_answerLetters_53 : decode cX0_answerLetters 53 = .ok (.invokevirtual 143, 3) := by decide +kernel
theorem dX0_answerLetters_56 : decode cX0_answerLetters 56 = .ok (.aload_n 0, 1) := by decide +kernel
theorem dX0_answerLetters_57 : decode cX0_answerLetters 57 = .ok (.getfield 29, 3) := by decide +kernel
theorem dX0_answerLetters_60 : decode cX0_answerLetters 60 = .ok (.iload_n 2, 1) := by decide +kernel
theorem dX0_answerLetters_61 : decode cX0_answerLetters 61 = .ok (.iconst 1, 1) := by decide +kernel
theorem dX0_answerLetters_62 : decode cX0_answerLetters 62 = .ok (.invokevirtual 143, 3) := by decide +kernel
theorem dX0_answerLetters_65 : decode cX0_answerLetters 65 = .ok (.invokevirtual 150, 3) := by decide +kernel
theorem dX0_answerLetters_68 : decode cX0_answerLetters 68 = .ok (.iinc 2 1, 3) := by decide +kernel
theorem dX0_answerLetters_71 : decode cX0_answerLetters 71 = .ok (.goto (-67), 3) := by decide +kernel
theorem dX0_answerLetters_74 : decode cX0_answerLetters 74 = .ok (.aload_n 0, 1) := by decide +kernel
theorem dX0_answerLetters_75 : decode cX0_answerLetters 75 = .ok (.getfield 29, 3) := by decide +kernel
theorem dX0_answerLetters_78 : decode cX0_answerLetters 78 = .ok (.iload_n 1, 1) := by decide +kernel
theorem dX0_answerLetters_79 : decode cX0_answerLetters 79 = .ok (.putfield 140, 3) := by decide +kernel
theorem dX0_answerLetters_82 : decode cX0_answerLetters 82 = .ok (.return_, 1) := by decide +kernel
theorem dX0_answer_0 : decode cX0_answer 0 = .ok (.aload_n 0, 1) := by decide +kernel
theorem dX0_answer_1 : decode cX0_answer 1 = .ok (.iload_n 1, 1) := by decide +kernel
theorem dX0_answer_2 : decode cX0_answer 2 = .ok (.invokevirtual 54, 3) := by decide +kernel
theorem dX0_answer_5 : decode cX0_answer 5 = .ok (.astore_n 3, 1) := by decide +kernel
theorem dX0_answer_6 : decode cX0_answer 6 = .ok (.aload_n 3, 1) := by decide +kernel
theorem dX0_answer_7 : decode cX0_answer 7 = .ok (.ifnull 8, 3) := by decide +kernel
theorem dX0_answer_10 : decode cX0_answer 10 = .ok (.aload_n 3, 1) := by decide +kernel
theorem dX0_answer_11 : decode cX0_answer 11 = .ok (.iload_n 2, 1) := by decide +kernel
theorem dX0_answer_12 : decode cX0_answer 12 = .ok (.invokevirtual 153, 3) := by decide +kernel
theorem dX0_answer_15 : decode cX0_answer 15 = .ok (.return_, 1) := by decide +kernel
theorem dX0_hasLetterOf_0 : decode cX0_hasLetterOf 0 = .ok (.iconst 0, 1) := by decide +kernel
theorem dX0_hasLetterOf_1 : decode cX0_hasLetterOf 1 = .ok (.istore_n 3, 1) := by decide +kernel
theorem dX0_hasLetterOf_2 : decode cX0_hasLetterOf 2 = .ok (.iload_n 3, 1) := by decide +kernel
theorem dX0_hasLetterOf_3 : decode cX0_hasLetterOf 3 = .ok (.aload_n 0, 1) := by decide +kernel
theorem dX0_hasLetterOf_4 : decode cX0_hasLetterOf 4 = .ok (.getfield 29, 3) := by decide +kernel
theorem dX0_hasLetterOf_7 : decode cX0_hasLetterOf 7 = .ok (.getfield 140, 3) := by decide +kernel
theorem dX0_hasLetterOf_10 : decode cX0_hasLetterOf 10 = .ok (.if_icmp .ge 37, 3) := by decide +kernel
theorem dX0_hasLetterOf_13 : decode cX0_hasLetterOf 13 = .ok (.aload_n 0, 1) := by decide +kernel
theorem dX0_hasLetterOf_14 : decode cX0_hasLetterOf 14 = .ok (.getfield 29, 3) := by decide +kernel
theorem dX0_hasLetterOf_17 : decode cX0_hasLetterOf 17 = .ok (.iload_n 3, 1) := by decide +kernel
theorem dX0_hasLetterOf_18 : decode cX0_hasLetterOf 18 = .ok (.iconst 0, 1) := by decide +kernel
theorem dX0_hasLetterOf_19 : decode cX0_hasLetterOf 19 = .ok (.invokevirtual 143, 3) := by decide +kernel
theorem dX0_hasLetterOf_22 : decode cX0_hasLetterOf 22 = .ok (.iload_n 1, 1) := by decide +kernel
theorem dX0_hasLetterOf_23 : decode cX0_hasLetterOf 23 = .ok (.if_icmp .ne 18, 3) := by decide +kernel
theorem dX0_hasLetterOf_26 : decode cX0_hasLetterOf 26 = .ok (.aload_n 0, 1) := by decide +kernel
theorem dX0_hasLetterOf_27 : decode cX0_hasLetterOf 27 = .ok (.getfield 29, 3) := by decide +kernel
theorem dX0_hasLetterOf_30 : decode cX0_hasLetterOf 30 = .ok (.iload_n 3, 1) := by decide +kernel
theorem dX0_hasLetterOf_31 : decode cX0_hasLetterOf 31 = .ok (.iconst 1, 1) := by decide +kernel
theorem dX0_hasLetterOf_32 : decode cX0_hasLetterOf 32 = .ok (.invokevirtual 143, 3) := by decide +kernel
theorem dX0_hasLetterOf_35 : decode cX0_hasLetterOf 35 = .ok (.iload_n 2, 1) := by decide +kernel
theorem dX0_hasLetterOf_36 : decode cX0_hasLetterOf 36 = .ok (.if_icmp .ne 5, 3) := by decide +kernel
theorem dX0_hasLetterOf_39 : decode cX0_hasLetterOf 39 = .ok (.iconst 1, 1) := by decide +kernel
theorem dX0_hasLetterOf_40 : decode cX0_hasLetterOf 40 = .ok (.ireturn, 1) := by decide +kernel
theorem dX0_hasLetterOf_41 : decode cX0_hasLetterOf 41 = .ok (.iinc 3 1, 3) := by decide +kernel
theorem dX0_hasLetterOf_44 : decode cX0_hasLetterOf 44 = .ok (.goto (-42), 3) := by decide +kernel
theorem dX0_hasLetterOf_47 : decode cX0_hasLetterOf 47 = .ok (.iconst 0, 1) := by decide +kernel
theorem dX0_hasLetterOf_48 : decode cX0_hasLetterOf 48 = .ok (.ireturn, 1) := by decide +kernel
theorem dX0_send_0 : decode cX0_send 0 = .ok (.aload_n 0, 1) := by decide +kernel
theorem dX0_send_1 : decode cX0_send 1 = .ok (.iload_n 1, 1) := by decide +kernel
theorem dX0_send_2 : decode cX0_send 2 = .ok (.invokevirtual 54, 3) := by decide +kernel
theorem dX0_send_5 : decode cX0_send 5 = .ok (.astore_n 3, 1) := by decide +kernel
theorem dX0_send_6 : decode cX0_send 6 = .ok (.aload_n 3, 1) := by decide +kernel
theorem dX0_send_7 : decode cX0_send 7 = .ok (.ifnonnull 7, 3) := by decide +kernel
theorem dX0_send_10 : decode cX0_send 10 = .ok (.aconst_null, 1) := by decide +kernel
theorem dX0_send_11 : decode cX0_send 11 = .ok (.goto 16, 3) := by decide +kernel
theorem dX0_send_14 : decode cX0_send 14 = .ok (.aload_n 0, 1) := by decide +kernel
theorem dX0_send_15 : decode cX0_send 15 = .ok (.aload_n 3, 1) := by decide +kernel
theorem dX0_send_16 : decode cX0_send 16 = .ok (.getfield 114, 3) := by decide +kernel
theorem dX0_send_19 : decode cX0_send 19 = .ok (.iload_n 2, 1) := by decide +kernel
theorem dX0_send_20 : decode cX0_send 20 = .ok (.iconst 1, 1) := by decide +kernel
theorem dX0_send_21 : decode cX0_send 21 = .ok (.invokevirtual 143, 3) := by decide +kernel
theorem dX0_send_24 : decode cX0_send 24 = .ok (.invokevirtual 47, 3) := by decide +kernel
theorem dX0_send_27 : decode cX0_send 27 = .ok (.astore 4, 2) := by decide +kernel
theorem dX0_send_29 : decode cX0_send 29 = .ok (.aload 4, 2) := by decide +kernel
theorem dX0_send_31 : decode cX0_send 31 = .ok (.ifnonnull 10, 3) := by decide +kernel
theorem dX0_send_34 : decode cX0_send 34 = .ok (.aload_n 0, 1) := by decide +kernel
theorem dX0_send_35 : decode cX0_send 35 = .ok (.getfield 40, 3) := by decide +kernel
theorem dX0_send_38 : decode cX0_send 38 = .ok (.goto 16, 3) := by decide +kernel
theorem dX0_send_41 : decode cX0_send 41 = .ok (.aload_n 0, 1) := by decide +kernel
theorem dX0_send_42 : decode cX0_send 42 = .ok (.getfield 40, 3) := by decide +kernel
theorem dX0_send_45 : decode cX0_send 45 = .ok (.aload 4, 2) := by decide +kernel
theorem dX0_send_47 : decode cX0_send 47 = .ok (.invokevirtual 157, 3) := by decide +kernel
theorem dX0_send_50 : decode cX0_send 50 = .ok (.bipush 24, 2) := by decide +kernel
theorem dX0_send_52 : decode cX0_send 52 = .ok (.imul, 1) := by decide +kernel
theorem dX0_send_53 : decode cX0_send 53 = .ok (.iadd, 1) := by decide +kernel
theorem dX0_send_54 : decode cX0_send 54 = .ok (.istore 5, 2) := by decide +kernel
theorem dX0_send_56 : decode cX0_send 56 = .ok (.aload_n 0, 1) := by decide +kernel
theorem dX0_send_57 : decode cX0_send 57 = .ok (.getfield 29, 3) := by decide +kernel
theorem dX0_send_60 : decode cX0_send 60 = .ok (.getfield 140, 3) := by decide +kernel
theorem dX0_send_63 : decode cX0_send 63 = .ok (.istore 6, 2) := by decide +kernel
theorem dX0_send_65 : decode cX0_send 65 = .ok (.aload_n 0, 1) := by decide +kernel
theorem dX0_send_66 : decode cX0_send 66 = .ok (.getfield 29, 3) := by decide +kernel
theorem dX0_send_69 : decode cX0_send 69 = .ok (.iload 6, 2) := by decide +kernel
theorem dX0_send_71 : decode cX0_send 71 = .ok (.iconst 0, 1) := by decide +kernel
theorem dX0_send_72 : decode cX0_send 72 = .ok (.iload_n 1, 1) := by decide +kernel
theorem dX0_send_73 : decode cX0_send 73 = .ok (.invokevirtual 160, 3) := by decide +kernel
theorem dX0_send_76 : decode cX0_send 76 = .ok (.aload_n 0, 1) := by decide +kernel
theorem dX0_send_77 : decode cX0_send 77 = .ok (.getfield 29, 3) := by decide +kernel
theorem dX0_send_80 : decode cX0_send 80 = .ok (.iload 6, 2) := by decide +kernel
theorem dX0_send_82 : decode cX0_send 82 = .ok (.iconst 1, 1) := by decide +kernel
theorem dX0_send_83 : decode cX0_send 83 = .ok (.iload_n 2, 1) := by decide +kernel
theorem dX0_send_84 : decode cX0_send 84 = .ok (.invokevirtual 160, 3) := by decide +kernel
theorem dX0_send_87 : decode cX0_send 87 = .ok (.aload_n 0, 1) := by decide +kernel
theorem dX0_send_88 : decode cX0_send 88 = .ok (.getfield 29, 3) := by decide +kernel
theorem dX0_send_91 : decode cX0_send 91 = .ok (.iload 6, 2) := by decide +kernel
theorem dX0_send_93 : decode cX0_send 93 = .ok (.iconst 2, 1) := by decide +kernel
theorem dX0_send_94 : decode cX0_send 94 = .ok (.iload 5, 2) := by decide +kernel
theorem dX0_send_96 : decode cX0_send 96 = .ok (.invokevirtual 160, 3) := by decide +kernel
theorem dX0_send_99 : decode cX0_send 99 = .ok (.aload_n 0, 1) := by decide +kernel
theorem dX0_send_100 : decode cX0_send 100 = .ok (.getfield 29, 3) := by decide +kernel
theorem dX0_send_103 : decode cX0_send 103 = .ok (.dup, 1) := by decide +kernel
theorem dX0_send_104 : decode cX0_send 104 = .ok (.getfield 140, 3) := by decide +kernel
theorem dX0_send_107 : decode cX0_send 107 = .ok (.iconst 1, 1) := by decide +kernel
theorem dX0_send_108 : decode cX0_send 108 = .ok (.iadd, 1) := by decide +kernel
theorem dX0_send_109 : decode cX0_send 109 = .ok (.putfield 140, 3) := by decide +kernel
theorem dX0_send_112 : decode cX0_send 112 = .ok (.iload 5, 2) := by decide +kernel
theorem dX0_send_114 : decode cX0_send 114 = .ok (.ireturn, 1) := by decide +kernel
theorem dX0_scoreOf_0 : decode cX0_scoreOf 0 = .ok (.aload_n 1, 1) := by decide +kernel
theorem dX0_scoreOf_1 : decode cX0_scoreOf 1 = .ok (.invokevirtual 163, 3) := by decide +kernel
theorem dX0_scoreOf_4 : decode cX0_scoreOf 4 = .ok (.istore_n 2, 1) := by decide +kernel
theorem dX0_scoreOf_5 : decode cX0_scoreOf 5 = .ok (.iconst 0, 1) := by decide +kernel
theorem dX0_scoreOf_6 : decode cX0_scoreOf 6 = .ok (.istore_n 3, 1) := by decide +kernel
theorem dX0_scoreOf_7 : decode cX0_scoreOf 7 = .ok (.iconst 0, 1) := by decide +kernel
theorem dX0_scoreOf_8 : decode cX0_scoreOf 8 = .ok (.istore 4, 2) := by decide +kernel
theorem dX0_scoreOf_10 : decode cX0_scoreOf 10 = .ok (.iload 4, 2) := by decide +kernel
theorem dX0_scoreOf_12 : decode cX0_scoreOf 12 = .ok (.aload_n 0, 1) := by decide +kernel
theorem dX0_scoreOf_13 : decode cX0_scoreOf 13 = .ok (.getfield 44, 3) := by decide +kernel
theorem dX0_scoreOf_16 : decode cX0_scoreOf 16 = .ok (.if_icmp .ge 39, 3) := by decide +kernel
theorem dX0_scoreOf_19 : decode cX0_scoreOf 19 = .ok (.aload_n 0, 1) := by decide +kernel
theorem dX0_scoreOf_20 : decode cX0_scoreOf 20 = .ok (.iload 4, 2) := by decide +kernel
theorem dX0_scoreOf_22 : decode cX0_scoreOf 22 = .ok (.invokevirtual 47, 3) := by decide +kernel
theorem dX0_scoreOf_25 : decode cX0_scoreOf 25 = .ok (.astore 5, 2) := by decide +kernel
theorem dX0_scoreOf_27 : decode cX0_scoreOf 27 = .ok (.aload 5, 2) := by decide +kernel
theorem dX0_scoreOf_29 : decode cX0_scoreOf 29 = .ok (.ifnull 20, 3) := by decide +kernel
theorem dX0_scoreOf_32 : decode cX0_scoreOf 32 = .ok (.iload_n 2, 1) := by decide +kernel
theorem dX0_scoreOf_33 : decode cX0_scoreOf 33 = .ok (.iconst 1, 1) := by decide +kernel
theorem dX0_scoreOf_34 : decode cX0_scoreOf 34 = .ok (.iload 4, 2) := by decide +kernel
theorem dX0_scoreOf_36 : decode cX0_scoreOf 36 = .ok (.ishl, 1) := by decide +kernel
theorem dX0_scoreOf_37 : decode cX0_scoreOf 37 = .ok (.iand, 1) := by decide +kernel
theorem dX0_scoreOf_38 : decode cX0_scoreOf 38 = .ok (.ifCond .eq 11, 3) := by decide +kernel
theorem dX0_scoreOf_41 : decode cX0_scoreOf 41 = .ok (.iload_n 3, 1) := by decide +kernel
theorem dX0_scoreOf_42 : decode cX0_scoreOf 42 = .ok (.aload 5, 2) := by decide +kernel
theorem dX0_scoreOf_44 : decode cX0_scoreOf 44 = .ok (.getfield 166, 3) := by decide +kernel
theorem dX0_scoreOf_47 : decode cX0_scoreOf 47 = .ok (.iadd, 1) := by decide +kernel
theorem dX0_scoreOf_48 : decode cX0_scoreOf 48 = .ok (.istore_n 3, 1) := by decide +kernel
theorem dX0_scoreOf_49 : decode cX0_scoreOf 49 = .ok (.iinc 4 1, 3) := by decide +kernel
theorem dX0_scoreOf_52 : decode cX0_scoreOf 52 = .ok (.goto (-42), 3) := by decide +kernel
theorem dX0_scoreOf_55 : decode cX0_scoreOf 55 = .ok (.iload_n 3, 1) := by decide +kernel
theorem dX0_scoreOf_56 : decode cX0_scoreOf 56 = .ok (.ireturn, 1) := by decide +kernel
theorem dX0_memberAtPlace_0 : decode cX0_memberAtPlace 0 = .ok (.iconst 0, 1) := by decide +kernel
theorem dX0_memberAtPlace_1 : decode cX0_memberAtPlace 1 = .ok (.istore_n 2, 1) := by decide +kernel
theorem dX0_memberAtPlace_2 : decode cX0_memberAtPlace 2 = .ok (.iload_n 2, 1) := by decide +kernel
theorem dX0_memberAtPlace_3 : decode cX0_memberAtPlace 3 = .ok (.aload_n 0, 1) := by decide +kernel
theorem dX0_memberAtPlace_4 : decode cX0_memberAtPlace 4 = .ok (.getfield 51, 3) := by decide +kernel
theorem dX0_memberAtPlace_7 : decode cX0_memberAtPlace 7 = .ok (.if_icmp .ge 20, 3) := by decide +kernel
theorem dX0_memberAtPlace_10 : decode cX0_memberAtPlace 10 = .ok (.aload_n 0, 1) := by decide +kernel
theorem dX0_memberAtPlace_11 : decode cX0_memberAtPlace 11 = .ok (.iload_n 2, 1) := by decide +kernel
theorem dX0_memberAtPlace_12 : decode cX0_memberAtPlace 12 = .ok (.invokevirtual 169, 3) := by decide +kernel
theorem dX0_memberAtPlace_15 : decode cX0_memberAtPlace 15 = .ok (.iload_n 1, 1) := by decide +kernel
theorem dX0_memberAtPlace_16 : decode cX0_memberAtPlace 16 = .ok (.if_icmp .ne 5, 3) := by decide +kernel
theorem dX0_memberAtPlace_19 : decode cX0_memberAtPlace 19 = .ok (.iload_n 2, 1) := by decide +kernel
theorem dX0_memberAtPlace_20 : decode cX0_memberAtPlace 20 = .ok (.ireturn, 1) := by decide +kernel
theorem dX0_memberAtPlace_21 : decode cX0_memberAtPlace 21 = .ok (.iinc 2 1, 3) := by decide +kernel
theorem dX0_memberAtPlace_24 : decode cX0_memberAtPlace 24 = .ok (.goto (-22), 3) := by decide +kernel
theorem dX0_memberAtPlace_27 : decode cX0_memberAtPlace 27 = .ok (.iconst (-1), 1) := by decide +kernel
theorem dX0_memberAtPlace_28 : decode cX0_memberAtPlace 28 = .ok (.ireturn, 1) := by decide +kernel
theorem dX0_leadersOf_0 : decode cX0_leadersOf 0 = .ok (.iconst 0, 1) := by decide +kernel
theorem dX0_leadersOf_1 : decode cX0_leadersOf 1 = .ok (.istore_n 2, 1) := by decide +kernel
theorem dX0_leadersOf_2 : decode cX0_leadersOf 2 = .ok (.iconst 0, 1) := by decide +kernel
theorem dX0_leadersOf_3 : decode cX0_leadersOf 3 = .ok (.istore_n 3, 1) := by decide +kernel
theorem dX0_leadersOf_4 : decode cX0_leadersOf 4 = .ok (.iload_n 3, 1) := by decide +kernel
theorem dX0_leadersOf_5 : decode cX0_leadersOf 5 = .ok (.aload_n 0, 1) := by decide +kernel
theorem dX0_leadersOf_6 : decode cX0_leadersOf 6 = .ok (.getfield 51, 3) := by decide +kernel
theorem dX0_leadersOf_9 : decode cX0_leadersOf 9 = .ok (.if_icmp .ge 26, 3) := by decide +kernel
theorem dX0_leadersOf_12 : decode cX0_leadersOf 12 = .ok (.iload_n 3, 1) := by decide +kernel
theorem dX0_leadersOf_13 : decode cX0_leadersOf 13 = .ok (.iload_n 1, 1) := by decide +kernel
theorem dX0_leadersOf_14 : decode cX0_leadersOf 14 = .ok (.if_icmp .eq 15, 3) := by decide +kernel
theorem dX0_leadersOf_17 : decode cX0_leadersOf 17 = .ok (.aload_n 0, 1) := by decide +kernel
theorem dX0_leadersOf_18 : decode cX0_leadersOf 18 = .ok (.iload_n 3, 1) := by decide +kernel
theorem dX0_leadersOf_19 : decode cX0_leadersOf 19 = .ok (.iload_n 1, 1) := by decide +kernel
theorem dX0_leadersOf_20 : decode cX0_leadersOf 20 = .ok (.invokevirtual 173, 3) := by decide +kernel
theorem dX0_leadersOf_23 : decode cX0_leadersOf 23 = .ok (.ifCond .eq 6, 3) := by decide +kernel
theorem dX0_leadersOf_26 : decode cX0_leadersOf 26 = .ok (.iinc 2 1, 3) := by decide +kernel
theorem dX0_leadersOf_29 : decode cX0_leadersOf 29 = .ok (.iinc 3 1, 3) := by decide +kernel
theorem dX0_leadersOf_32 : decode cX0_leadersOf 32 = .ok (.goto (-28), 3) := by decide +kernel
theorem dX0_leadersOf_35 : decode cX0_leadersOf 35 = .ok (.iload_n 2, 1) := by decide +kernel
theorem dX0_leadersOf_36 : decode cX0_leadersOf 36 = .ok (.ireturn, 1) := by decide +kernel
theorem dX0_leads_0 : decode cX0_leads 0 = .ok (.aload_n 0, 1) := by decide +kernel
theorem dX0_leads_1 : decode cX0_leads 1 = .ok (.iload_n 1, 1) := by decide +kernel
theorem dX0_leads_2 : decode cX0_leads 2 = .ok (.invokevirtual 54, 3) := by decide +kernel
theorem dX0_leads_5 : decode cX0_leads 5 = .ok (.astore_n 3, 1) := by decide +kernel
theorem dX0_leads_6 : decode cX0_leads 6 = .ok (.aload_n 0, 1) := by decide +kernel
theorem dX0_leads_7 : decode cX0_leads 7 = .ok (.iload_n 2, 1) := by decide +kernel
theorem dX0_leads_8 : decode cX0_leads 8 = .ok (.invokevirtual 54, 3) := by decide +kernel
theorem dX0_leads_11 : decode cX0_leads 11 = .ok (.astore 4, 2) := by decide +kernel
theorem dX0_leads_13 : decode cX0_leads 13 = .ok (.aload_n 3, 1) := by decide +kernel
theorem dX0_leads_14 : decode cX0_leads 14 = .ok (.ifnull 8, 3) := by decide +kernel
theorem dX0_leads_17 : decode cX0_leads 17 = .ok (.aload 4, 2) := by decide +kernel
theorem dX0_leads_19 : decode cX0_leads 19 = .ok (.ifnonnull 5, 3) := by decide +kernel
theorem dX0_leads_22 : decode cX0_leads 22 = .ok (.iconst 0, 1) := by decide +kernel
theorem dX0_leads_23 : decode cX0_leads 23 = .ok (.ireturn, 1) := by decide +kernel
theorem dX0_leads_24 : decode cX0_leads 24 = .ok (.aload_n 0, 1) := by decide +kernel
theorem dX0_leads_25 : decode cX0_leads 25 = .ok (.aload_n 3, 1) := by decide +kernel
theorem dX0_leads_26 : decode cX0_leads 26 = .ok (.invokevirtual 176, 3) := by decide +kernel
theorem dX0_leads_29 : decode cX0_leads 29 = .ok (.aload_n 0, 1) := by decide +kernel
theorem dX0_leads_30 : decode cX0_leads 30 = .ok (.aload 4, 2) := by decide +kernel
theorem dX0_leads_32 : decode cX0_leads 32 = .ok (.invokevirtual 176, 3) := by decide +kernel
theorem dX0_leads_35 : decode cX0_leads 35 = .ok (.invokestatic 180, 3) := by decide +kernel
theorem dX0_leads_38 : decode cX0_leads 38 = .ok (.istore 5, 2) := by decide +kernel
theorem dX0_leads_40 : decode cX0_leads 40 = .ok (.iload 5, 2) := by decide +kernel
theorem dX0_leads_42 : decode cX0_leads 42 = .ok (.ifCond .eq 14, 3) := by decide +kernel
theorem dX0_leads_45 : decode cX0_leads 45 = .ok (.iload 5, 2) := by decide +kernel
theorem dX0_leads_47 : decode cX0_leads 47 = .ok (.ifCond .le 7, 3) := by decide +kernel
theorem dX0_leads_50 : decode cX0_leads 50 = .ok (.iconst 1, 1) := by decide +kernel
theorem dX0_leads_51 : decode cX0_leads 51 = .ok (.goto 4, 3) := by decide +kernel
theorem dX0_leads_54 : decode cX0_leads 54 = .ok (.iconst 0, 1) := by decide +kernel
theorem dX0_leads_55 : decode cX0_leads 55 = .ok (.ireturn, 1) := by decide +kernel
theorem dX0_leads_56 : decode cX0_leads 56 = .ok (.aload_n 3, 1) := by decide +kernel
theorem dX0_leads_57 : decode cX0_leads 57 = .ok (.getfield 114, 3) := by decide +kernel
theorem dX0_leads_60 : decode cX0_leads 60 = .ok (.getfield 140, 3) := by decide +kernel
theorem dX0_leads_63 : decode cX0_leads 63 = .ok (.aload 4, 2) := by decide +kernel
theorem dX0_leads_65 : decode cX0_leads 65 = .ok (.getfield 114, 3) := by decide +kernel
theorem dX0_leads_68 : decode cX0_leads 68 = .ok (.getfield 140, 3) := by decide +kernel
theorem dX0_leads_71 : decode cX0_leads 71 = .ok (.invokestatic 180, 3) := by decide +kernel
theorem dX0_leads_74 : decode cX0_leads 74 = .ok (.istore 6, 2) := by decide +kernel
theorem dX0_leads_76 : decode cX0_leads 76 = .ok (.iload 6, 2) := by decide +kernel
theorem dX0_leads_78 : decode cX0_leads 78 = .ok (.ifCond .eq 16, 3) := by decide +kernel
theorem dX0_leads_81 : decode cX0_leads 81 = .ok (.iload 6, 2) := by decide +kernel
theorem dX0_leads_83 : decode cX0_leads 83 = .ok (.ifCond .le 7, 3) := by decide +kernel
theorem dX0_leads_86 : decode cX0_leads 86 = .ok (.iconst 1, 1) := by decide +kernel
theorem dX0_leads_87 : decode cX0_leads 87 = .ok (.goto 17, 3) := by decide +kernel
theorem dX0_leads_90 : decode cX0_leads 90 = .ok (.iconst 0, 1) := by decide +kernel
theorem dX0_leads_91 : decode cX0_leads 91 = .ok (.goto 13, 3) := by decide +kernel
theorem dX0_leads_94 : decode cX0_leads 94 = .ok (.iload_n 1, 1) := by decide +kernel
theorem dX0_leads_95 : decode cX0_leads 95 = .ok (.iload_n 2, 1) := by decide +kernel
theorem dX0_leads_96 : decode cX0_leads 96 = .ok (.if_icmp .ge 7, 3) := by decide +kernel
theorem dX0_leads_99 : decode cX0_leads 99 = .ok (.iconst 1, 1) := by decide +kernel
theorem dX0_leads_100 : decode cX0_leads 100 = .ok (.goto 4, 3) := by decide +kernel
theorem dX0_leads_103 : decode cX0_leads 103 = .ok (.iconst 0, 1) := by decide +kernel
theorem dX0_leads_104 : decode cX0_leads 104 = .ok (.ireturn, 1) := by decide +kernel
theorem dX0_tellStation_0 : decode cX0_tellStation 0 = .ok (.aload_n 0, 1) := by decide +kernel
theorem dX0_tellStation_1 : decode cX0_tellStation 1 = .ok (.iload_n 1, 1) := by decide +kernel
theorem dX0_tellStation_2 : decode cX0_tellStation 2 = .ok (.invokevirtual 47, 3) := by decide +kernel
theorem dX0_tellStation_5 : decode cX0_tellStation 5 = .ok (.astore_n 3, 1) := by decide +kernel
theorem dX0_tellStation_6 : decode cX0_tellStation 6 = .ok (.aload_n 3, 1) := by decide +kernel
theorem dX0_tellStation_7 : decode cX0_tellStation 7 = .ok (.ifnonnull 5, 3) := by decide +kernel
theorem dX0_tellStation_10 : decode cX0_tellStation 10 = .ok (.iconst 0, 1) := by decide +kernel
theorem dX0_tellStation_11 : decode cX0_tellStation 11 = .ok (.ireturn, 1) := by decide +kernel
theorem dX0_tellStation_12 : decode cX0_tellStation 12 = .ok (.iload_n 2, 1) := by decide +kernel
theorem dX0_tellStation_13 : decode cX0_tellStation 13 = .ok (.tableswitch 76 0 4 #[35, 40, 45, 50, 67], 35) := by decide +kernel
theorem dX0_tellStation_48 : decode cX0_tellStation 48 = .ok (.aload_n 3, 1) := by decide +kernel
theorem dX0_tellStation_49 : decode cX0_tellStation 49 = .ok (.getfield 185, 3) := by decide +kernel
theorem dX0_tellStation_52 : decode cX0_tellStation 52 = .ok (.ireturn, 1) := by decide +kernel
theorem dX0_tellStation_53 : decode cX0_tellStation 53 = .ok (.aload_n 3, 1) := by decide +kernel
theorem dX0_tellStation_54 : decode cX0_tellStation 54 = .ok (.getfield 188, 3) := by decide +kernel
theorem dX0_tellStation_57 : decode cX0_tellStation 57 = .ok (.ireturn, 1) := by decide +kernel
theorem dX0_tellStation_58 : decode cX0_tellStation 58 = .ok (.aload_n 3, 1) := by decide +kernel
theorem dX0_tellStation_59 : decode cX0_tellStation 59 = .ok (.getfield 166, 3) := by decide +kernel
theorem dX0_tellStation_62 : decode cX0_tellStation 62 = .ok (.ireturn, 1) := by decide +kernel
theorem dX0_tellStation_63 : decode cX0_tellStation 63 = .ok (.aload_n 3, 1) := by decide +kernel
theorem dX0_tellStation_64 : decode cX0_tellStation 64 = .ok (.aload_n 0, 1) := by decide +kernel
theorem dX0_tellStation_65 : decode cX0_tellStation 65 = .ok (.getfield 40, 3) := by decide +kernel
theorem dX0_tellStation_68 : decode cX0_tellStation 68 = .ok (.invokevirtual 71, 3) := by decide +kernel
theorem dX0_tellStation_71 : decode cX0_tellStation 71 = .ok (.ifCond .eq 7, 3) := by decide +kernel
theorem dX0_tellStation_74 : decode cX0_tellStation 74 = .ok (.iconst 1, 1) := by decide +kernel
theorem dX0_tellStation_75 : decode cX0_tellStation 75 = .ok (.goto 4, 3) := by decide +kernel
theorem dX0_tellStation_78 : decode cX0_tellStation 78 = .ok (.iconst 0, 1) := by decide +kernel
theorem dX0_tellStation_79 : decode cX0_tellStation 79 = .ok (.ireturn, 1) := by decide +kernel
theorem dX0_tellStation_80 : decode cX0_tellStation 80 = .ok (.aload_n 3, 1) := by decide +kernel
theorem dX0_tellStation_81 : decode cX0_tellStation 81 = .ok (.aload_n 0, 1) := by decide +kernel
theorem dX0_tellStation_82 : decode cX0_tellStation 82 = .ok (.getfield 40, 3) := by decide +kernel
theorem dX0_tellStation_85 : decode cX0_tellStation 85 = .ok (.invokevirtual 191, 3) := by decide +kernel
theorem dX0_tellStation_88 : decode cX0_tellStation 88 = .ok (.ireturn, 1) := by decide +kernel
theorem dX0_tellStation_89 : decode cX0_tellStation 89 = .ok (.aload_n 0, 1) := by decide +kernel
theorem dX0_tellStation_90 : decode cX0_tellStation 90 = .ok (.iload_n 1, 1) := by decide +kernel
theorem dX0_tellStation_91 : decode cX0_tellStation 91 = .ok (.invokevirtual 194, 3) := by decide +kernel
theorem dX0_tellStation_94 : decode cX0_tellStation 94 = .ok (.ireturn, 1) := by decide +kernel
theorem dX0_membersWithCardOf_0 : decode cX0_membersWithCardOf 0 = .ok (.iconst 0, 1) := by decide +kernel
theorem dX0_membersWithCardOf_1 : decode cX0_membersWithCardOf 1 = .ok (.istore_n 2, 1) := by decide +kernel
theorem dX0_membersWithCardOf_2 : decode cX0_membersWithCardOf 2 = .ok (.iconst 0, 1) := by decide +kernel
theorem dX0_membersWithCardOf_3 : decode cX0_membersWithCardOf 3 = .ok (.istore_n 3, 1) := by decide +kernel
theorem dX0_membersWithCardOf_4 : decode cX0_membersWithCardOf 4 = .ok (.iload_n 3, 1) := by decide +kernel
theorem dX0_membersWithCardOf_5 : decode cX0_membersWithCardOf 5 = .ok (.aload_n 0, 1) := by decide +kernel
theorem dX0_membersWithCardOf_6 : decode cX0_membersWithCardOf 6 = .ok (.getfield 51, 3) := by decide +kernel
theorem dX0_membersWithCardOf_9 : decode cX0_membersWithCardOf 9 = .ok (.if_icmp .ge 36, 3) := by decide +kernel
theorem dX0_membersWithCardOf_12 : decode cX0_membersWithCardOf 12 = .ok (.aload_n 0, 1) := by decide +kernel
theorem dX0_membersWithCardOf_13 : decode cX0_membersWithCardOf 13 = .ok (.iload_n 3, 1) := by decide +kernel
theorem dX0_membersWithCardOf_14 : decode cX0_membersWithCardOf 14 = .ok (.invokevirtual 54, 3) := by decide +kernel
theorem dX0_membersWithCardOf_17 : decode cX0_membersWithCardOf 17 = .ok (.astore 4, 2) := by decide +kernel
theorem dX0_membersWithCardOf_19 : decode cX0_membersWithCardOf 19 = .ok (.aload 4, 2) := by decide +kernel
theorem dX0_membersWithCardOf_21 : decode cX0_membersWithCardOf 21 = .ok (.ifnull 18, 3) := by decide +kernel
theorem dX0_membersWithCardOf_24 : decode cX0_membersWithCardOf 24 = .ok (.aload 4, 2) := by decide +kernel
theorem dX0_membersWithCardOf_26 : decode cX0_membersWithCardOf 26 = .ok (.invokevirtual 163, 3) := by decide +kernel
theorem dX0_membersWithCardOf_29 : decode cX0_membersWithCardOf 29 = .ok (.iconst 1, 1) := by decide +kernel
theorem dX0_membersWithCardOf_30 : decode cX0_membersWithCardOf 30 = .ok (.iload_n 1, 1) := by decide +kernel
theorem dX0_membersWithCardOf_31 : decode cX0_membersWithCardOf 31 = .ok (.ishl, 1) := by decide +kernel
theorem dX0_membersWithCardOf_32 : decode cX0_membersWithCardOf 32 = .ok (.iand, 1) := by decide +kernel
theorem dX0_membersWithCardOf_33 : decode cX0_membersWithCardOf 33 = .ok (.ifCond .eq 6, 3) := by decide +kernel
theorem dX0_membersWithCardOf_36 : decode cX0_membersWithCardOf 36 = .ok (.iinc 2 1, 3) := by decide +kernel
theorem dX0_membersWithCardOf_39 : decode cX0_membersWithCardOf 39 = .ok (.iinc 3 1, 3) := by decide +kernel
theorem dX0_membersWithCardOf_42 : decode cX0_membersWithCardOf 42 = .ok (.goto (-38), 3) := by decide +kernel
theorem dX0_membersWithCardOf_45 : decode cX0_membersWithCardOf 45 = .ok (.iload_n 2, 1) := by decide +kernel
theorem dX0_membersWithCardOf_46 : decode cX0_membersWithCardOf 46 = .ok (.ireturn, 1) := by decide +kernel
theorem dX0_tellMember_0 : decode cX0_tellMember 0 = .ok (.aload_n 0, 1) := by decide +kernel
theorem dX0_tellMember_1 : decode cX0_tellMember 1 = .ok (.iload_n 1, 1) := by decide +kernel
theorem dX0_tellMember_2 : decode cX0_tellMember 2 = .ok (.invokevirtual 54, 3) := by decide +kernel
theorem dX0_tellMember_5 : decode cX0_tellMember 5 = .ok (.astore_n 3, 1) := by decide +kernel
theorem dX0_tellMember_6 : decode cX0_tellMember 6 = .ok (.aload_n 3, 1) := by decide +kernel
theorem dX0_tellMember_7 : decode cX0_tellMember 7 = .ok (.ifnonnull 5, 3) := by decide +kernel
theorem dX0_tellMember_10 : decode cX0_tellMember 10 = .ok (.iconst 0, 1) := by decide +kernel
theorem dX0_tellMember_11 : decode cX0_tellMember 11 = .ok (.ireturn, 1) := by decide +kernel
theorem dX0_tellMember_12 : decode cX0_tellMember 12 = .ok (.iload_n 2, 1) := by decide +kernel
theorem dX0_tellMember_13 : decode cX0_tellMember 13 = .ok (.tableswitch 128 0 8 #[51, 59, 67, 75, 83, 96, 104, 112, 120], 51) := by decide +kernel
theorem dX0_tellMember_64 : decode cX0_tellMember 64 = .ok (.aload_n 3, 1) := by decide +kernel
theorem dX0_tellMember_65 : decode cX0_tellMember 65 = .ok (.getfield 125, 3) := by decide +kernel
theorem dX0_tellMember_68 : decode cX0_tellMember 68 = .ok (.getfield 84, 3) := by decide +kernel
theorem dX0_tellMember_71 : decode cX0_tellMember 71 = .ok (.ireturn, 1) := by decide +kernel
theorem dX0_tellMember_72 : decode cX0_tellMember 72 = .ok (.aload_n 3, 1) := by decide +kernel
theorem dX0_tellMember_73 : decode cX0_tellMember 73 = .ok (.getfield 125, 3) := by decide +kernel
theorem dX0_tellMember_76 : decode cX0_tellMember 76 = .ok (.getfield 197, 3) := by decide +kernel
theorem dX0_tellMember_79 : decode cX0_tellMember 79 = .ok (.ireturn, 1) := by decide +kernel
theorem dX0_tellMember_80 : decode cX0_tellMember 80 = .ok (.aload_n 3, 1) := by decide +kernel
theorem dX0_tellMember_81 : decode cX0_tellMember 81 = .ok (.getfield 125, 3) := by decide +kernel
theorem dX0_tellMember_84 : decode cX0_tellMember 84 = .ok (.getfield 200, 3) := by decide +kernel
theorem dX0_tellMember_87 : decode cX0_tellMember 87 = .ok (.ireturn, 1) := by decide +kernel
theorem dX0_tellMember_88 : decode cX0_tellMember 88 = .ok (.aload_n 3, 1) := by decide +kernel
theorem dX0_tellMember_89 : decode cX0_tellMember 89 = .ok (.getfield 125, 3) := by decide +kernel
theorem dX0_tellMember_92 : decode cX0_tellMember 92 = .ok (.getfield 203, 3) := by decide +kernel
theorem dX0_tellMember_95 : decode cX0_tellMember 95 = .ok (.ireturn, 1) := by decide +kernel
theorem dX0_tellMember_96 : decode cX0_tellMember 96 = .ok (.aload_n 3, 1) := by decide +kernel
theorem dX0_tellMember_97 : decode cX0_tellMember 97 = .ok (.getfield 110, 3) := by decide +kernel
theorem dX0_tellMember_100 : decode cX0_tellMember 100 = .ok (.ifCond .eq 7, 3) := by decide +kernel
theorem dX0_tellMember_103 : decode cX0_tellMember 103 = .ok (.iconst 1, 1) := by decide +kernel
theorem dX0_tellMember_104 : decode cX0_tellMember 104 = .ok (.goto 4, 3) := by decide +kernel
theorem dX0_tellMember_107 : decode cX0_tellMember 107 = .ok (.iconst 0, 1) := by decide +kernel
theorem dX0_tellMember_108 : decode cX0_tellMember 108 = .ok (.ireturn, 1) := by decide +kernel
theorem dX0_tellMember_109 : decode cX0_tellMember 109 = .ok (.aload_n 3, 1) := by decide +kernel
theorem dX0_tellMember_110 : decode cX0_tellMember 110 = .ok (.getfield 125, 3) := by decide +kernel
theorem dX0_tellMember_113 : decode cX0_tellMember 113 = .ok (.getfield 206, 3) := by decide +kernel
theorem dX0_tellMember_116 : decode cX0_tellMember 116 = .ok (.ireturn, 1) := by decide +kernel
theorem dX0_tellMember_117 : decode cX0_tellMember 117 = .ok (.aload_n 3, 1) := by decide +kernel
theorem dX0_tellMember_118 : decode cX0_tellMember 118 = .ok (.getfield 125, 3) := by decide +kernel
theorem dX0_tellMember_121 : decode cX0_tellMember 121 = .ok (.getfield 209, 3) := by decide +kernel
theorem dX0_tellMember_124 : decode cX0_tellMember 124 = .ok (.ireturn, 1) := by decide +kernel
theorem dX0_tellMember_125 : decode cX0_tellMember 125 = .ok (.aload_n 3, 1) := by decide +kernel
theorem dX0_tellMember_126 : decode cX0_tellMember 126 = .ok (.getfield 114, 3) := by decide +kernel
theorem dX0_tellMember_129 : decode cX0_tellMember 129 = .ok (.getfield 140, 3) := by decide +kernel
theorem dX0_tellMember_132 : decode cX0_tellMember 132 = .ok (.ireturn, 1) := by decide +kernel
theorem dX0_tellMember_133 : decode cX0_tellMember 133 = .ok (.aload_n 3, 1) := by decide +kernel
theorem dX0_tellMember_134 : decode cX0_tellMember 134 = .ok (.invokevirtual 163, 3) := by decide +kernel
theorem dX0_tellMember_137 : decode cX0_tellMember 137 = .ok (.invokestatic 212, 3) := by decide +kernel
theorem dX0_tellMember_140 : decode cX0_tellMember 140 = .ok (.ireturn, 1) := by decide +kernel
theorem dX0_tellMember_141 : decode cX0_tellMember 141 = .ok (.aload_n 0, 1) := by decide +kernel
theorem dX0_tellMember_142 : decode cX0_tellMember 142 = .ok (.aload_n 3, 1) := by decide +kernel
theorem dX0_tellMember_143 : decode cX0_tellMember 143 = .ok (.invokevirtual 176, 3) := by decide +kernel
theorem dX0_tellMember_146 : decode cX0_tellMember 146 = .ok (.ireturn, 1) := by decide +kernel
theorem dX0_tellCount_0 : decode cX0_tellCount 0 = .ok (.iload_n 1, 1) := by decide +kernel
theorem dX0_tellCount_1 : decode cX0_tellCount 1 = .ok (.tableswitch 78 0 6 #[43, 48, 53, 58, 63, 68, 73], 43) := by decide +kernel
theorem dX0_tellCount_44 : decode cX0_tellCount 44 = .ok (.aload_n 0, 1) := by decide +kernel
theorem dX0_tellCount_45 : decode cX0_tellCount 45 = .ok (.getfield 40, 3) := by decide +kernel
theorem dX0_tellCount_48 : decode cX0_tellCount 48 = .ok (.ireturn, 1) := by decide +kernel
theorem dX0_tellCount_49 : decode cX0_tellCount 49 = .ok (.aload_n 0, 1) := by decide +kernel
theorem dX0_tellCount_50 : decode cX0_tellCount 50 = .ok (.getfield 44, 3) := by decide +kernel
theorem dX0_tellCount_53 : decode cX0_tellCount 53 = .ok (.ireturn, 1) := by decide +kernel
theorem dX0_tellCount_54 : decode cX0_tellCount 54 = .ok (.aload_n 0, 1) := by decide +kernel
theorem dX0_tellCount_55 : decode cX0_tellCount 55 = .ok (.invokevirtual 215, 3) := by decide +kernel
theorem dX0_tellCount_58 : decode cX0_tellCount 58 = .ok (.ireturn, 1) := by decide +kernel
theorem dX0_tellCount_59 : decode cX0_tellCount 59 = .ok (.aload_n 0, 1) := by decide +kernel
theorem dX0_tellCount_60 : decode cX0_tellCount 60 = .ok (.getfield 51, 3) := by decide +kernel
theorem dX0_tellCount_63 : decode cX0_tellCount 63 = .ok (.ireturn, 1) := by decide +kernel
theorem dX0_tellCount_64 : decode cX0_tellCount 64 = .ok (.aload_n 0, 1) := by decide +kernel
theorem dX0_tellCount_65 : decode cX0_tellCount 65 = .ok (.invokevirtual 218, 3) := by decide +kernel
theorem dX0_tellCount_68 : decode cX0_tellCount 68 = .ok (.ireturn, 1) := by decide +kernel
theorem dX0_tellCount_69 : decode cX0_tellCount 69 = .ok (.aload_n 0, 1) := by decide +kernel
theorem dX0_tellCount_70 : decode cX0_tellCount 70 = .ok (.invokevirtual 221, 3) := by decide +kernel
theorem dX0_tellCount_73 : decode cX0_tellCount 73 = .ok (.ireturn, 1) := by decide +kernel
theorem dX0_tellCount_74 : decode cX0_tellCount 74 = .ok (.aload_n 0, 1) := by decide +kernel
theorem dX0_tellCount_75 : decode cX0_tellCount 75 = .ok (.invokevirtual 224, 3) := by decide +kernel
theorem dX0_tellCount_78 : decode cX0_tellCount 78 = .ok (.ireturn, 1) := by decide +kernel
theorem dX0_tellCount_79 : decode cX0_tellCount 79 = .ok (.aload_n 0, 1) := by decide +kernel
theorem dX0_tellCount_80 : decode cX0_tellCount 80 = .ok (.getfield 29, 3) := by decide +kernel
theorem dX0_tellCount_83 : decode cX0_tellCount 83 = .ok (.getfield 140, 3) := by decide +kernel
theorem dX0_tellCount_86 : decode cX0_tellCount 86 = .ok (.ireturn, 1) := by decide +kernel
theorem dX0_stationsOnAir_0 : decode cX0_stationsOnAir 0 = .ok (.iconst 0, 1) := by decide +kernel
theorem dX0_stationsOnAir_1 : decode cX0_stationsOnAir 1 = .ok (.istore_n 1, 1) := by decide +kernel
theorem dX0_stationsOnAir_2 : decode cX0_stationsOnAir 2 = .ok (.iconst 0, 1) := by decide +kernel
theorem dX0_stationsOnAir_3 : decode cX0_stationsOnAir 3 = .ok (.istore_n 2, 1) := by decide +kernel
theorem dX0_stationsOnAir_4 : decode cX0_stationsOnAir 4 = .ok (.iload_n 2, 1) := by decide +kernel
theorem dX0_stationsOnAir_5 : decode cX0_stationsOnAir 5 = .ok (.aload_n 0, 1) := by decide +kernel
theorem dX0_stationsOnAir_6 : decode cX0_stationsOnAir 6 = .ok (.getfield 44, 3) := by decide +kernel
theorem dX0_stationsOnAir_9 : decode cX0_stationsOnAir 9 = .ok (.if_icmp .ge 33, 3) := by decide +kernel
theorem dX0_stationsOnAir_12 : decode cX0_stationsOnAir 12 = .ok (.aload_n 0, 1) := by decide +kernel
theorem dX0_stationsOnAir_13 : decode cX0_stationsOnAir 13 = .ok (.iload_n 2, 1) := by decide +kernel
theorem dX0_stationsOnAir_14 : decode cX0_stationsOnAir 14 = .ok (.invokevirtual 47, 3) := by decide +kernel
theorem dX0_stationsOnAir_17 : decode cX0_stationsOnAir 17 = .ok (.astore_n 3, 1) := by decide +kernel
theorem dX0_stationsOnAir_18 : decode cX0_stationsOnAir 18 = .ok (.aload_n 3, 1) := by decide +kernel
theorem dX0_stationsOnAir_19 : decode cX0_stationsOnAir 19 = .ok (.ifnull 17, 3) := by decide +kernel
theorem dX0_stationsOnAir_22 : decode cX0_stationsOnAir 22 = .ok (.aload_n 3, 1) := by decide +kernel
theorem dX0_stationsOnAir_23 : decode cX0_stationsOnAir 23 = .ok (.aload_n 0, 1) := by decide +kernel
theorem dX0_stationsOnAir_24 : decode cX0_stationsOnAir 24 = .ok (.getfield 40, 3) := by decide +kernel
theorem dX0_stationsOnAir_27 : decode cX0_stationsOnAir 27 = .ok (.invokevirtual 71, 3) := by decide +kernel
theorem dX0_stationsOnAir_30 : decode cX0_stationsOnAir 30 = .ok (.ifCond .eq 6, 3) := by decide +kernel
theorem dX0_stationsOnAir_33 : decode cX0_stationsOnAir 33 = .ok (.iinc 1 1, 3) := by decide +kernel
theorem dX0_stationsOnAir_36 : decode cX0_stationsOnAir 36 = .ok (.iinc 2 1, 3) := by decide +kernel
theorem dX0_stationsOnAir_39 : decode cX0_stationsOnAir 39 = .ok (.goto (-35), 3) := by decide +kernel
theorem dX0_stationsOnAir_42 : decode cX0_stationsOnAir 42 = .ok (.iload_n 1, 1) := by decide +kernel
theorem dX0_stationsOnAir_43 : decode cX0_stationsOnAir 43 = .ok (.ireturn, 1) := by decide +kernel
theorem dX0_listeners_0 : decode cX0_listeners 0 = .ok (.iconst 0, 1) := by decide +kernel
theorem dX0_listeners_1 : decode cX0_listeners 1 = .ok (.istore_n 1, 1) := by decide +kernel
theorem dX0_listeners_2 : decode cX0_listeners 2 = .ok (.iconst 0, 1) := by decide +kernel
theorem dX0_listeners_3 : decode cX0_listeners 3 = .ok (.istore_n 2, 1) := by decide +kernel
theorem dX0_listeners_4 : decode cX0_listeners 4 = .ok (.iload_n 2, 1) := by decide +kernel
theorem dX0_listeners_5 : decode cX0_listeners 5 = .ok (.aload_n 0, 1) := by decide +kernel
theorem dX0_listeners_6 : decode cX0_listeners 6 = .ok (.getfield 51, 3) := by decide +kernel
theorem dX0_listeners_9 : decode cX0_listeners 9 = .ok (.if_icmp .ge 29, 3) := by decide +kernel
theorem dX0_listeners_12 : decode cX0_listeners 12 = .ok (.aload_n 0, 1) := by decide +kernel
theorem dX0_listeners_13 : decode cX0_listeners 13 = .ok (.iload_n 2, 1) := by decide +kernel
theorem dX0_listeners_14 : decode cX0_listeners 14 = .ok (.invokevirtual 54, 3) := by decide +kernel
theorem dX0_listeners_17 : decode cX0_listeners 17 = .ok (.astore_n 3, 1) := by decide +kernel
theorem dX0_listeners_18 : decode cX0_listeners 18 = .ok (.aload_n 3, 1) := by decide +kernel
theorem dX0_listeners_19 : decode cX0_listeners 19 = .ok (.ifnull 13, 3) := by decide +kernel
theorem dX0_listeners_22 : decode cX0_listeners 22 = .ok (.aload_n 3, 1) := by decide +kernel
theorem dX0_listeners_23 : decode cX0_listeners 23 = .ok (.getfield 110, 3) := by decide +kernel
theorem dX0_listeners_26 : decode cX0_listeners 26 = .ok (.ifCond .eq 6, 3) := by decide +kernel
theorem dX0_listeners_29 : decode cX0_listeners 29 = .ok (.iinc 1 1, 3) := by decide +kernel
theorem dX0_listeners_32 : decode cX0_listeners 32 = .ok (.iinc 2 1, 3) := by decide +kernel
theorem dX0_listeners_35 : decode cX0_listeners 35 = .ok (.goto (-31), 3) := by decide +kernel
theorem dX0_listeners_38 : decode cX0_listeners 38 = .ok (.iload_n 1, 1) := by decide +kernel
theorem dX0_listeners_39 : decode cX0_listeners 39 = .ok (.ireturn, 1) := by decide +kernel
theorem dX0_allLines_0 : decode cX0_allLines 0 = .ok (.iconst 0, 1) := by decide +kernel
theorem dX0_allLines_1 : decode cX0_allLines 1 = .ok (.istore_n 1, 1) := by decide +kernel
theorem dX0_allLines_2 : decode cX0_allLines 2 = .ok (.iconst 0, 1) := by decide +kernel
theorem dX0_allLines_3 : decode cX0_allLines 3 = .ok (.istore_n 2, 1) := by decide +kernel
theorem dX0_allLines_4 : decode cX0_allLines 4 = .ok (.iload_n 2, 1) := by decide +kernel
theorem dX0_allLines_5 : decode cX0_allLines 5 = .ok (.aload_n 0, 1) := by decide +kernel
theorem dX0_allLines_6 : decode cX0_allLines 6 = .ok (.getfield 51, 3) := by decide +kernel
theorem dX0_allLines_9 : decode cX0_allLines 9 = .ok (.if_icmp .ge 33, 3) := by decide +kernel
theorem dX0_allLines_12 : decode cX0_allLines 12 = .ok (.aload_n 0, 1) := by decide +kernel
theorem dX0_allLines_13 : decode cX0_allLines 13 = .ok (.iload_n 2, 1) := by decide +kernel
theorem dX0_allLines_14 : decode cX0_allLines 14 = .ok (.invokevirtual 54, 3) := by decide +kernel
theorem dX0_allLines_17 : decode cX0_allLines 17 = .ok (.astore_n 3, 1) := by decide +kernel
theorem dX0_allLines_18 : decode cX0_allLines 18 = .ok (.iload_n 1, 1) := by decide +kernel
theorem dX0_allLines_19 : decode cX0_allLines 19 = .ok (.aload_n 3, 1) := by decide +kernel
theorem dX0_allLines_20 : decode cX0_allLines 20 = .ok (.ifnonnull 7, 3) := by decide +kernel
theorem dX0_allLines_23 : decode cX0_allLines 23 = .ok (.iconst 0, 1) := by decide +kernel
theorem dX0_allLines_24 : decode cX0_allLines 24 = .ok (.goto 10, 3) := by decide +kernel
theorem dX0_allLines_27 : decode cX0_allLines 27 = .ok (.aload_n 3, 1) := by decide +kernel
theorem dX0_allLines_28 : decode cX0_allLines 28 = .ok (.getfield 114, 3) := by decide +kernel
theorem dX0_allLines_31 : decode cX0_allLines 31 = .ok (.getfield 140, 3) := by decide +kernel
theorem dX0_allLines_34 : decode cX0_allLines 34 = .ok (.iadd, 1) := by decide +kernel
theorem dX0_allLines_35 : decode cX0_allLines 35 = .ok (.istore_n 1, 1) := by decide +kernel
theorem dX0_allLines_36 : decode cX0_allLines 36 = .ok (.iinc 2 1, 3) := by decide +kernel
theorem dX0_allLines_39 : decode cX0_allLines 39 = .ok (.goto (-35), 3) := by decide +kernel
theorem dX0_allLines_42 : decode cX0_allLines 42 = .ok (.iload_n 1, 1) := by decide +kernel
theorem dX0_allLines_43 : decode cX0_allLines 43 = .ok (.ireturn, 1) := by decide +kernel
theorem dX0_confirmedLines_0 : decode cX0_confirmedLines 0 = .ok (.aload_n 0, 1) := by decide +kernel
theorem dX0_confirmedLines_1 : decode cX0_confirmedLines 1 = .ok (.iconst 3, 1) := by decide +kernel
theorem dX0_confirmedLines_2 : decode cX0_confirmedLines 2 = .ok (.invokevirtual 227, 3) := by decide +kernel
theorem dX0_confirmedLines_5 : decode cX0_confirmedLines 5 = .ok (.ireturn, 1) := by decide +kernel
theorem dX0_allStrengths_0 : decode cX0_allStrengths 0 = .ok (.aload_n 0, 1) := by decide +kernel
theorem dX0_allStrengths_1 : decode cX0_allStrengths 1 = .ok (.iconst 2, 1) := by decide +kernel
theorem dX0_allStrengths_2 : decode cX0_allStrengths 2 = .ok (.invokevirtual 227, 3) := by decide +kernel
theorem dX0_allStrengths_5 : decode cX0_allStrengths 5 = .ok (.ireturn, 1) := by decide +kernel
theorem dX0_sumOfLogs_0 : decode cX0_sumOfLogs 0 = .ok (.iconst 0, 1) := by decide +kernel
theorem dX0_sumOfLogs_1 : decode cX0_sumOfLogs 1 = .ok (.istore_n 2, 1) := by decide +kernel
theorem dX0_sumOfLogs_2 : decode cX0_sumOfLogs 2 = .ok (.iconst 0, 1) := by decide +kernel
theorem dX0_sumOfLogs_3 : decode cX0_sumOfLogs 3 = .ok (.istore_n 3, 1) := by decide +kernel
theorem dX0_sumOfLogs_4 : decode cX0_sumOfLogs 4 = .ok (.iload_n 3, 1) := by decide +kernel
theorem dX0_sumOfLogs_5 : decode cX0_sumOfLogs 5 = .ok (.aload_n 0, 1) := by decide +kernel
theorem dX0_sumOfLogs_6 : decode cX0_sumOfLogs 6 = .ok (.getfield 51, 3) := by decide +kernel
theorem dX0_sumOfLogs_9 : decode cX0_sumOfLogs 9 = .ok (.if_icmp .ge 37, 3) := by decide +kernel
theorem dX0_sumOfLogs_12 : decode cX0_sumOfLogs 12 = .ok (.aload_n 0, 1) := by decide +kernel
theorem dX0_sumOfLogs_13 : decode cX0_sumOfLogs 13 = .ok (.iload_n 3, 1) := by decide +kernel
theorem dX0_sumOfLogs_14 : decode cX0_sumOfLogs 14 = .ok (.invokevirtual 54, 3) := by decide +kernel
theorem dX0_sumOfLogs_17 : decode cX0_sumOfLogs 17 = .ok (.astore 4, 2) := by decide +kernel
theorem dX0_sumOfLogs_19 : decode cX0_sumOfLogs 19 = .ok (.iload_n 2, 1) := by decide +kernel
theorem dX0_sumOfLogs_20 : decode cX0_sumOfLogs 20 = .ok (.aload 4, 2) := by decide +kernel
theorem dX0_sumOfLogs_22 : decode cX0_sumOfLogs 22 = .ok (.ifnonnull 7, 3) := by decide +kernel
theorem dX0_sumOfLogs_25 : decode cX0_sumOfLogs 25 = .ok (.iconst 0, 1) := by decide +kernel
theorem dX0_sumOfLogs_26 : decode cX0_sumOfLogs 26 = .ok (.goto 12, 3) := by decide +kernel
theorem dX0_sumOfLogs_29 : decode cX0_sumOfLogs 29 = .ok (.aload 4, 2) := by decide +kernel
theorem dX0_sumOfLogs_31 : decode cX0_sumOfLogs 31 = .ok (.getfield 114, 3) := by decide +kernel
theorem dX0_sumOfLogs_34 : decode cX0_sumOfLogs 34 = .ok (.iload_n 1, 1) := by decide +kernel
theorem dX0_sumOfLogs_35 : decode cX0_sumOfLogs 35 = .ok (.invokevirtual 230, 3) := by decide +kernel
theorem dX0_sumOfLogs_38 : decode cX0_sumOfLogs 38 = .ok (.iadd, 1) := by decide +kernel
theorem dX0_sumOfLogs_39 : decode cX0_sumOfLogs 39 = .ok (.istore_n 2, 1) := by decide +kernel
theorem dX0_sumOfLogs_40 : decode cX0_sumOfLogs 40 = .ok (.iinc 3 1, 3) := by decide +kernel
theorem dX0_sumOfLogs_43 : decode cX0_sumOfLogs 43 = .ok (.goto (-39), 3) := by decide +kernel
theorem dX0_sumOfLogs_46 : decode cX0_sumOfLogs 46 = .ok (.iload_n 2, 1) := by decide +kernel
theorem dX0_sumOfLogs_47 : decode cX0_sumOfLogs 47 = .ok (.ireturn, 1) := by decide +kernel
theorem dX0_checksum_0 : decode cX0_checksum 0 = .ok (.ldc2_w 233, 3) := by decide +kernel
theorem dX0_checksum_3 : decode cX0_checksum 3 = .ok (.lstore_n 1, 1) := by decide +kernel
theorem dX0_checksum_4 : decode cX0_checksum 4 = .ok (.iconst 0, 1) := by decide +kernel
theorem dX0_checksum_5 : decode cX0_checksum 5 = .ok (.istore_n 3, 1) := by decide +kernel
theorem dX0_checksum_6 : decode cX0_checksum 6 = .ok (.iload_n 3, 1) := by decide +kernel
theorem dX0_checksum_7 : decode cX0_checksum 7 = .ok (.bipush 8, 2) := by decide +kernel
theorem dX0_checksum_9 : decode cX0_checksum 9 = .ok (.if_icmp .ge 22, 3) := by decide +kernel
theorem dX0_checksum_12 : decode cX0_checksum 12 = .ok (.lload_n 1, 1) := by decide +kernel
theorem dX0_checksum_13 : decode cX0_checksum 13 = .ok (.ldc2_w 235, 3) := by decide +kernel
theorem dX0_checksum_16 : decode cX0_checksum 16 = .ok (.lmul, 1) := by decide +kernel
theorem dX0_checksum_17 : decode cX0_checksum 17 = .ok (.aload_n 0, 1) := by decide +kernel
theorem dX0_checksum_18 : decode cX0_checksum 18 = .ok (.iload_n 3, 1) := by decide +kernel
theorem dX0_checksum_19 : decode cX0_checksum 19 = .ok (.invokevirtual 237, 3) := by decide +kernel
theorem dX0_checksum_22 : decode cX0_checksum 22 = .ok (.i2l, 1) := by decide +kernel
theorem dX0_checksum_23 : decode cX0_checksum 23 = .ok (.ladd, 1) := by decide +kernel
theorem dX0_checksum_24 : decode cX0_checksum 24 = .ok (.lstore_n 1, 1) := by decide +kernel
theorem dX0_checksum_25 : decode cX0_checksum 25 = .ok (.iinc 3 1, 3) := by decide +kernel
theorem dX0_checksum_28 : decode cX0_checksum 28 = .ok (.goto (-22), 3) := by decide +kernel
theorem dX0_checksum_31 : decode cX0_checksum 31 = .ok (.iconst 0, 1) := by decide +kernel
theorem dX0_checksum_32 : decode cX0_checksum 32 = .ok (.istore_n 3, 1) := by decide +kernel
theorem dX0_checksum_33 : decode cX0_checksum 33 = .ok (.iload_n 3, 1) := by decide +kernel
theorem dX0_checksum_34 : decode cX0_checksum 34 = .ok (.aload_n 0, 1) := by decide +kernel
theorem dX0_checksum_35 : decode cX0_checksum 35 = .ok (.getfield 44, 3) := by decide +kernel
theorem dX0_checksum_38 : decode cX0_checksum 38 = .ok (.if_icmp .ge 40, 3) := by decide +kernel
theorem dX0_checksum_41 : decode cX0_checksum 41 = .ok (.iconst 0, 1) := by decide +kernel
theorem dX0_checksum_42 : decode cX0_checksum 42 = .ok (.istore 4, 2) := by decide +kernel
theorem dX0_checksum_44 : decode cX0_checksum 44 = .ok (.iload 4, 2) := by decide +kernel
theorem dX0_checksum_46 : decode cX0_checksum 46 = .ok (.bipush 6, 2) := by decide +kernel
theorem dX0_checksum_48 : decode cX0_checksum 48 = .ok (.if_icmp .ge 24, 3) := by decide +kernel
theorem dX0_checksum_51 : decode cX0_checksum 51 = .ok (.lload_n 1, 1) := by decide +kernel
theorem dX0_checksum_52 : decode cX0_checksum 52 = .ok (.ldc2_w 235, 3) := by decide +kernel
theorem dX0_checksum_55 : decode cX0_checksum 55 = .ok (.lmul, 1) := by decide +kernel
theorem dX0_checksum_56 : decode cX0_checksum 56 = .ok (.aload_n 0, 1) := by decide +kernel
theorem dX0_checksum_57 : decode cX0_checksum 57 = .ok (.iload_n 3, 1) := by decide +kernel
theorem dX0_checksum_58 : decode cX0_checksum 58 = .ok (.iload 4, 2) := by decide +kernel
theorem dX0_checksum_60 : decode cX0_checksum 60 = .ok (.invokevirtual 240, 3) := by decide +kernel
theorem dX0_checksum_63 : decode cX0_checksum 63 = .ok (.i2l, 1) := by decide +kernel
theorem dX0_checksum_64 : decode cX0_checksum 64 = .ok (.ladd, 1) := by decide +kernel
theorem dX0_checksum_65 : decode cX0_checksum 65 = .ok (.lstore_n 1, 1) := by decide +kernel
theorem dX0_checksum_66 : decode cX0_checksum 66 = .ok (.iinc 4 1, 3) := by decide +kernel
theorem dX0_checksum_69 : decode cX0_checksum 69 = .ok (.goto (-25), 3) := by decide +kernel
theorem dX0_checksum_72 : decode cX0_checksum 72 = .ok (.iinc 3 1, 3) := by decide +kernel
theorem dX0_checksum_75 : decode cX0_checksum 75 = .ok (.goto (-42), 3) := by decide +kernel
theorem dX0_checksum_78 : decode cX0_checksum 78 = .ok (.iconst 0, 1) := by decide +kernel
theorem dX0_checksum_79 : decode cX0_checksum 79 = .ok (.istore_n 3, 1) := by decide +kernel
theorem dX0_checksum_80 : decode cX0_checksum 80 = .ok (.iload_n 3, 1) := by decide +kernel
theorem dX0_checksum_81 : decode cX0_checksum 81 = .ok (.aload_n 0, 1) := by decide +kernel
theorem dX0_checksum_82 : decode cX0_checksum 82 = .ok (.getfield 51, 3) := by decide +kernel
theorem dX0_checksum_85 : decode cX0_checksum 85 = .ok (.if_icmp .ge 16, 3) := by decide +kernel
theorem dX0_checksum_88 : decode cX0_checksum 88 = .ok (.aload_n 0, 1) := by decide +kernel
theorem dX0_checksum_89 : decode cX0_checksum 89 = .ok (.lload_n 1, 1) := by decide +kernel
theorem dX0_checksum_90 : decode cX0_checksum 90 = .ok (.iload_n 3, 1) := by decide +kernel
theorem dX0_checksum_91 : decode cX0_checksum 91 = .ok (.invokevirtual 243, 3) := by decide +kernel
theorem dX0_checksum_94 : decode cX0_checksum 94 = .ok (.lstore_n 1, 1) := by decide +kernel
theorem dX0_checksum_95 : decode cX0_checksum 95 = .ok (.iinc 3 1, 3) := by decide +kernel
theorem dX0_checksum_98 : decode cX0_checksum 98 = .ok (.goto (-18), 3) := by decide +kernel
theorem dX0_checksum_101 : decode cX0_checksum 101 = .ok (.lload_n 1, 1) := by decide +kernel
theorem dX0_checksum_102 : decode cX0_checksum 102 = .ok (.aload_n 0, 1) := by decide +kernel
theorem dX0_checksum_103 : decode cX0_checksum 103 = .ok (.getfield 29, 3) := by decide +kernel
theorem dX0_checksum_106 : decode cX0_checksum 106 = .ok (.invokestatic 247, 3) := by decide +kernel
theorem dX0_checksum_109 : decode cX0_checksum 109 = .ok (.lreturn, 1) := by decide +kernel
theorem dX0_withMember_0 : decode cX0_withMember 0 = .ok (.lload_n 1, 1) := by decide +kernel
theorem dX0_withMember_1 : decode cX0_withMember 1 = .ok (.lstore 4, 2) := by decide +kernel
theorem dX0_withMember_3 : decode cX0_withMember 3 = .ok (.iconst 0, 1) := by decide +kernel
theorem dX0_withMember_4 : decode cX0_withMember 4 = .ok (.istore 6, 2) := by decide +kernel
theorem dX0_withMember_6 : decode cX0_withMember 6 = .ok (.iload 6, 2) := by decide +kernel
theorem dX0_withMember_8 : decode cX0_withMember 8 = .ok (.bipush 10, 2) := by decide +kernel
theorem dX0_withMember_10 : decode cX0_withMember 10 = .ok (.if_icmp .ge 26, 3) := by decide +kernel
theorem dX0_withMember_13 : decode cX0_withMember 13 = .ok (.lload 4, 2) := by decide +kernel
theorem dX0_withMember_15 : decode cX0_withMember 15 = .ok (.ldc2_w 235, 3) := by decide +kernel
theorem dX0_withMember_18 : decode cX0_withMember 18 = .ok (.lmul, 1) := by decide +kernel
theorem dX0_withMember_19 : decode cX0_withMember 19 = .ok (.aload_n 0, 1) := by decide +kernel
theorem dX0_withMember_20 : decode cX0_withMember 20 = .ok (.iload_n 3, 1) := by decide +kernel
theorem dX0_withMember_21 : decode cX0_withMember 21 = .ok (.iload 6, 2) := by decide +kernel
theorem dX0_withMember_23 : decode cX0_withMember 23 = .ok (.invokevirtual 251, 3) := by decide +kernel
theorem dX0_withMember_26 : decode cX0_withMember 26 = .ok (.i2l, 1) := by decide +kernel
theorem dX0_withMember_27 : decode cX0_withMember 27 = .ok (.ladd, 1) := by decide +kernel
theorem dX0_withMember_28 : decode cX0_withMember 28 = .ok (.lstore 4, 2) := by decide +kernel
theorem dX0_withMember_30 : decode cX0_withMember 30 = .ok (.iinc 6 1, 3) := by decide +kernel
theorem dX0_withMember_33 : decode cX0_withMember 33 = .ok (.goto (-27), 3) := by decide +kernel
theorem dX0_withMember_36 : decode cX0_withMember 36 = .ok (.aload_n 0, 1) := by decide +kernel
theorem dX0_withMember_37 : decode cX0_withMember 37 = .ok (.iload_n 3, 1) := by decide +kernel
theorem dX0_withMember_38 : decode cX0_withMember 38 = .ok (.invokevirtual 54, 3) := by decide +kernel
theorem dX0_withMember_41 : decode cX0_withMember 41 = .ok (.astore 6, 2) := by decide +kernel
theorem dX0_withMember_43 : decode cX0_withMember 43 = .ok (.aload 6, 2) := by decide +kernel
theorem dX0_withMember_45 : decode cX0_withMember 45 = .ok (.ifnonnull 8, 3) := by decide +kernel
theorem dX0_withMember_48 : decode cX0_withMember 48 = .ok (.lload 4, 2) := by decide +kernel
theorem dX0_withMember_50 : decode cX0_withMember 50 = .ok (.goto 13, 3) := by decide +kernel
theorem dX0_withMember_53 : decode cX0_withMember 53 = .ok (.lload 4, 2) := by decide +kernel
theorem dX0_withMember_55 : decode cX0_withMember 55 = .ok (.aload 6, 2) := by decide +kernel
theorem dX0_withMember_57 : decode cX0_withMember 57 = .ok (.getfield 114, 3) := by decide +kernel
theorem dX0_withMember_60 : decode cX0_withMember 60 = .ok (.invokestatic 247, 3) := by decide +kernel
theorem dX0_withMember_63 : decode cX0_withMember 63 = .ok (.lreturn, 1) := by decide +kernel
theorem dX0_withRows_0 : decode cX0_withRows 0 = .ok (.lload_n 0, 1) := by decide +kernel
theorem dX0_withRows_1 : decode cX0_withRows 1 = .ok (.lstore_n 3, 1) := by decide +kernel
theorem dX0_withRows_2 : decode cX0_withRows 2 = .ok (.iconst 0, 1) := by decide +kernel
theorem dX0_withRows_3 : decode cX0_withRows 3 = .ok (.istore 5, 2) := by decide +kernel
theorem dX0_withRows_5 : decode cX0_withRows 5 = .ok (.iload 5, 2) := by decide +kernel
theorem dX0_withRows_7 : decode cX0_withRows 7 = .ok (.aload_n 2, 1) := by decide +kernel
theorem dX0_withRows_8 : decode cX0_withRows 8 = .ok (.getfield 140, 3) := by decide +kernel
theorem dX0_withRows_11 : decode cX0_withRows 11 = .ok (.if_icmp .ge 43, 3) := by decide +kernel
theorem dX0_withRows_14 : decode cX0_withRows 14 = .ok (.iconst 0, 1) := by decide +kernel
theorem dX0_withRows_15 : decode cX0_withRows 15 = .ok (.istore 6, 2) := by decide +kernel
theorem dX0_withRows_17 : decode cX0_withRows 17 = .ok (.iload 6, 2) := by decide +kernel
theorem dX0_withRows_19 : decode cX0_withRows 19 = .ok (.aload_n 2, 1) := by decide +kernel
theorem dX0_withRows_20 : decode cX0_withRows 20 = .ok (.getfield 254, 3) := by decide +kernel
theorem dX0_withRows_23 : decode cX0_withRows 23 = .ok (.if_icmp .ge 25, 3) := by decide +kernel
theorem dX0_withRows_26 : decode cX0_withRows 26 = .ok (.lload_n 3, 1) := by decide +kernel
theorem dX0_withRows_27 : decode cX0_withRows 27 = .ok (.ldc2_w 235, 3) := by decide +kernel
theorem dX0_withRows_30 : decode cX0_withRows 30 = .ok (.lmul, 1) := by decide +kernel
theorem dX0_withRows_31 : decode cX0_withRows 31 = .ok (.aload_n 2, 1) := by decide +kernel
theorem dX0_withRows_32 : decode cX0_withRows 32 = .ok (.iload 5, 2) := by decide +kernel
theorem dX0_withRows_34 : decode cX0_withRows 34 = .ok (.iload 6, 2) := by decide +kernel
theorem dX0_withRows_36 : decode cX0_withRows 36 = .ok (.invokevirtual 143, 3) := by decide +kernel
theorem dX0_withRows_39 : decode cX0_withRows 39 = .ok (.i2l, 1) := by decide +kernel
theorem dX0_withRows_40 : decode cX0_withRows 40 = .ok (.ladd, 1) := by decide +kernel
theorem dX0_withRows_41 : decode cX0_withRows 41 = .ok (.lstore_n 3, 1) := by decide +kernel
theorem dX0_withRows_42 : decode cX0_withRows 42 = .ok (.iinc 6 1, 3) := by decide +kernel
theorem dX0_withRows_45 : decode cX0_withRows 45 = .ok (.goto (-28), 3) := by decide +kernel
theorem dX0_withRows_48 : decode cX0_withRows 48 = .ok (.iinc 5 1, 3) := by decide +kernel
theorem dX0_withRows_51 : decode cX0_withRows 51 = .ok (.goto (-46), 3) := by decide +kernel
theorem dX0_withRows_54 : decode cX0_withRows 54 = .ok (.lload_n 3, 1) := by decide +kernel
theorem dX0_withRows_55 : decode cX0_withRows 55 = .ok (.lreturn, 1) := by decide +kernel
theorem dX1_init_0 : decode cX1_init 0 = .ok (.aload_n 0, 1) := by decide +kernel
theorem dX1_init_1 : decode cX1_init 1 = .ok (.invokespecial 1, 3) := by decide +kernel
theorem dX1_init_4 : decode cX1_init 4 = .ok (.return_, 1) := by decide +kernel
theorem dX1_tune_0 : decode cX1_tune 0 = .ok (.aload_n 0, 1) := by decide +kernel
theorem dX1_tune_1 : decode cX1_tune 1 = .ok (.iload_n 1, 1) := by decide +kernel
theorem dX1_tune_2 : decode cX1_tune 2 = .ok (.putfield 7, 3) := by decide +kernel
theorem dX1_tune_5 : decode cX1_tune 5 = .ok (.aload_n 0, 1) := by decide +kernel
theorem dX1_tune_6 : decode cX1_tune 6 = .ok (.iload_n 2, 1) := by decide +kernel
theorem dX1_tune_7 : decode cX1_tune 7 = .ok (.putfield 13, 3) := by decide +kernel
theorem dX1_tune_10 : decode cX1_tune 10 = .ok (.aload_n 0, 1) := by decide +kernel
theorem dX1_tune_11 : decode cX1_tune 11 = .ok (.ldc 16, 2) := by decide +kernel
theorem dX1_tune_13 : decode cX1_tune 13 = .ok (.iload_n 1, 1) := by decide +kernel
theorem dX1_tune_14 : decode cX1_tune 14 = .ok (.iload_n 2, 1) := by decide +kernel
theorem dX1_tune_15 : decode cX1_tune 15 = .ok (.iadd, 1) := by decide +kernel
theorem dX1_tune_16 : decode cX1_tune 16 = .ok (.invokestatic 17, 3) := by decide +kernel
theorem dX1_tune_19 : decode cX1_tune 19 = .ok (.putfield 23, 3) := by decide +kernel
theorem dX1_tune_22 : decode cX1_tune 22 = .ok (.aload_n 0, 1) := by decide +kernel
theorem dX1_tune_23 : decode cX1_tune 23 = .ok (.bipush 10, 2) := by decide +kernel
theorem dX1_tune_25 : decode cX1_tune 25 = .ok (.bipush 80, 2) := by decide +kernel
theorem dX1_tune_27 : decode cX1_tune 27 = .ok (.iload_n 1, 1) := by decide +kernel
theorem dX1_tune_28 : decode cX1_tune 28 = .ok (.iconst 3, 1) := by decide +kernel
theorem dX1_tune_29 : decode cX1_tune 29 = .ok (.idiv, 1) := by decide +kernel
theorem dX1_tune_30 : decode cX1_tune 30 = .ok (.isub, 1) := by decide +kernel
theorem dX1_tune_31 : decode cX1_tune 31 = .ok (.invokestatic 26, 3) := by decide +kernel
theorem dX1_tune_34 : decode cX1_tune 34 = .ok (.putfield 31, 3) := by decide +kernel
theorem dX1_tune_37 : decode cX1_tune 37 = .ok (.return_, 1) := by decide +kernel
theorem dX1_copyFrom_0 : decode cX1_copyFrom 0 = .ok (.aload_n 0, 1) := by decide +kernel
theorem dX1_copyFrom_1 : decode cX1_copyFrom 1 = .ok (.aload_n 1, 1) := by decide +kernel
theorem dX1_copyFrom_2 : decode cX1_copyFrom 2 = .ok (.getfield 7, 3) := by decide +kernel
theorem dX1_copyFrom_5 : decode cX1_copyFrom 5 = .ok (.putfield 7, 3) := by decide +kernel
theorem dX1_copyFrom_8 : decode cX1_copyFrom 8 = .ok (.aload_n 0, 1) := by decide +kernel
theorem dX1_copyFrom_9 : decode cX1_copyFrom 9 = .ok (.aload_n 1, 1) := by decide +kernel
theorem dX1_copyFrom_10 : decode cX1_copyFrom 10 = .ok (.getfield 13, 3) := by decide +kernel
theorem dX1_copyFrom_13 : decode cX1_copyFrom 13 = .ok (.putfield 13, 3) := by decide +kernel
theorem dX1_copyFrom_16 : decode cX1_copyFrom 16 = .ok (.aload_n 0, 1) := by decide +kernel
theorem dX1_copyFrom_17 : decode cX1_copyFrom 17 = .ok (.aload_n 1, 1) := by decide +kernel
theorem dX1_copyFrom_18 : decode cX1_copyFrom 18 = .ok (.getfield 34, 3) := by decide +kernel
theorem dX1_copyFrom_21 : decode cX1_copyFrom 21 = .ok (.putfield 34, 3) := by decide +kernel
theorem dX1_copyFrom_24 : decode cX1_copyFrom 24 = .ok (.aload_n 0, 1) := by decide +kernel
theorem dX1_copyFrom_25 : decode cX1_copyFrom 25 = .ok (.aload_n 1, 1) := by decide +kernel
theorem dX1_copyFrom_26 : decode cX1_copyFrom 26 = .ok (.getfield 37, 3) := by decide +kernel
theorem dX1_copyFrom_29 : decode cX1_copyFrom 29 = .ok (.putfield 37, 3) := by decide +kernel
theorem dX1_copyFrom_32 : decode cX1_copyFrom 32 = .ok (.aload_n 0, 1) := by decide +kernel
theorem dX1_copyFrom_33 : decode cX1_copyFrom 33 = .ok (.aload_n 1, 1) := by decide +kernel
theorem dX1_copyFrom_34 : decode cX1_copyFrom 34 = .ok (.getfield 23, 3) := by decide +kernel
theorem dX1_copyFrom_37 : decode cX1_copyFrom 37 = .ok (.putfield 23, 3) := by decide +kernel
theorem dX1_copyFrom_40 : decode cX1_copyFrom 40 = .ok (.aload_n 0, 1) := by decide +kernel
theorem dX1_copyFrom_41 : decode cX1_copyFrom 41 = .ok (.aload_n 1, 1) := by decide +kernel
theorem dX1_copyFrom_42 : decode cX1_copyFrom 42 = .ok (.getfield 31, 3) := by decide +kernel
theorem dX1_copyFrom_45 : decode cX1_copyFrom 45 = .ok (.putfield 31, 3) := by decide +kernel
theorem dX1_copyFrom_48 : decode cX1_copyFrom 48 = .ok (.return_, 1) := by decide +kernel
theorem dX1_strengthOf_0 : decode cX1_strengthOf 0 = .ok (.aload_n 0, 1) := by decide +kernel
theorem dX1_strengthOf_1 : decode cX1_strengthOf 1 = .ok (.getfield 31, 3) := by decide +kernel
theorem dX1_strengthOf_4 : decode cX1_strengthOf 4 = .ok (.aload_n 1, 1) := by decide +kernel
theorem dX1_strengthOf_5 : decode cX1_strengthOf 5 = .ok (.getfield 40, 3) := by decide +kernel
theorem dX1_strengthOf_8 : decode cX1_strengthOf 8 = .ok (.aload_n 0, 1) := by decide +kernel
theorem dX1_strengthOf_9 : decode cX1_strengthOf 9 = .ok (.getfield 23, 3) := by decide +kernel
theorem dX1_strengthOf_12 : decode cX1_strengthOf 12 = .ok (.invokestatic 45, 3) := by decide +kernel
theorem dX1_strengthOf_15 : decode cX1_strengthOf 15 = .ok (.isub, 1) := by decide +kernel
theorem dX1_strengthOf_16 : decode cX1_strengthOf 16 = .ok (.istore_n 3, 1) := by decide +kernel
theorem dX1_strengthOf_17 : decode cX1_strengthOf 17 = .ok (.iload_n 3, 1) := by decide +kernel
theorem dX1_strengthOf_18 : decode cX1_strengthOf 18 = .ok (.ifCond .gt 5, 3) := by decide +kernel
theorem dX1_strengthOf_21 : decode cX1_strengthOf 21 = .ok (.iconst 0, 1) := by decide +kernel
theorem dX1_strengthOf_22 : decode cX1_strengthOf 22 = .ok (.ireturn, 1) := by decide +kernel
theorem dX1_strengthOf_23 : decode cX1_strengthOf 23 = .ok (.aload_n 1, 1) := by decide +kernel
theorem dX1_strengthOf_24 : decode cX1_strengthOf 24 = .ok (.getfield 48, 3) := by decide +kernel
theorem dX1_strengthOf_27 : decode cX1_strengthOf 27 = .ok (.aload_n 1, 1) := by decide +kernel
theorem dX1_strengthOf_28 : decode cX1_strengthOf 28 = .ok (.iload_n 2, 1) := by decide +kernel
theorem dX1_strengthOf_29 : decode cX1_strengthOf 29 = .ok (.invokevirtual 51, 3) := by decide +kernel
theorem dX1_strengthOf_32 : decode cX1_strengthOf 32 = .ok (.imul, 1) := by decide +kernel
theorem dX1_strengthOf_33 : decode cX1_strengthOf 33 = .ok (.aload_n 0, 1) := by decide +kernel
theorem dX1_strengthOf_34 : decode cX1_strengthOf 34 = .ok (.getfield 34, 3) := by decide +kernel
theorem dX1_strengthOf_37 : decode cX1_strengthOf 37 = .ok (.imul, 1) := by decide +kernel
theorem dX1_strengthOf_38 : decode cX1_strengthOf 38 = .ok (.bipush 10, 2) := by decide +kernel
theorem dX1_strengthOf_40 : decode cX1_strengthOf 40 = .ok (.aload_n 1, 1) := by decide +kernel
theorem dX1_strengthOf_41 : decode cX1_strengthOf 41 = .ok (.getfield 55, 3) := by decide +kernel
theorem dX1_strengthOf_44 : decode cX1_strengthOf 44 = .ok (.imul, 1) := by decide +kernel
theorem dX1_strengthOf_45 : decode cX1_strengthOf 45 = .ok (.invokestatic 17, 3) := by decide +kernel
theorem dX1_strengthOf_48 : decode cX1_strengthOf 48 = .ok (.istore 4, 2) := by decide +kernel
theorem dX1_strengthOf_50 : decode cX1_strengthOf 50 = .ok (.iload 4, 2) := by decide +kernel
theorem dX1_strengthOf_52 : decode cX1_strengthOf 52 = .ok (.iload_n 3, 1) := by decide +kernel
theorem dX1_strengthOf_53 : decode cX1_strengthOf 53 = .ok (.imul, 1) := by decide +kernel
theorem dX1_strengthOf_54 : decode cX1_strengthOf 54 = .ok (.aload_n 0, 1) := by decide +kernel
theorem dX1_strengthOf_55 : decode cX1_strengthOf 55 = .ok (.getfield 31, 3) := by decide +kernel
theorem dX1_strengthOf_58 : decode cX1_strengthOf 58 = .ok (.invokestatic 17, 3) := by decide +kernel
theorem dX1_strengthOf_61 : decode cX1_strengthOf 61 = .ok (.iconst 1, 1) := by decide +kernel
theorem dX1_strengthOf_62 : decode cX1_strengthOf 62 = .ok (.aload_n 0, 1) := by decide +kernel
theorem dX1_strengthOf_63 : decode cX1_strengthOf 63 = .ok (.getfield 37, 3) := by decide +kernel
theorem dX1_strengthOf_66 : decode cX1_strengthOf 66 = .ok (.iadd, 1) := by decide +kernel
theorem dX1_strengthOf_67 : decode cX1_strengthOf 67 = .ok (.imul, 1) := by decide +kernel
theorem dX1_strengthOf_68 : decode cX1_strengthOf 68 = .ok (.bipush 10, 2) := by decide +kernel
theorem dX1_strengthOf_70 : decode cX1_strengthOf 70 = .ok (.idiv, 1) := by decide +kernel
theorem dX1_strengthOf_71 : decode cX1_strengthOf 71 = .ok (.ireturn, 1) := by decide +kernel
theorem dX2_init_0 : decode cX2_init 0 = .ok (.aload_n 0, 1) := by decide +kernel
theorem dX2_init_1 : decode cX2_init 1 = .ok (.invokespecial 3, 3) := by decide +kernel
theorem dX2_init_4 : decode cX2_init 4 = .ok (.return_, 1) := by decide +kernel
theorem dX2_clear_0 : decode cX2_clear 0 = .ok (.aload_n 0, 1) := by decide +kernel
theorem dX2_clear_1 : decode cX2_clear 1 = .ok (.iconst 0, 1) := by decide +kernel
theorem dX2_clear_2 : decode cX2_clear 2 = .ok (.putfield 9, 3) := by decide +kernel
theorem dX2_clear_5 : decode cX2_clear 5 = .ok (.aload_n 0, 1) := by decide +kernel
theorem dX2_clear_6 : decode cX2_clear 6 = .ok (.iconst (-1), 1) := by decide +kernel
theorem dX2_clear_7 : decode cX2_clear 7 = .ok (.putfield 15, 3) := by decide +kernel
theorem dX2_clear_10 : decode cX2_clear 10 = .ok (.aload_n 0, 1) := by decide +kernel
theorem dX2_clear_11 : decode cX2_clear 11 = .ok (.iconst 0, 1) := by decide +kernel
theorem dX2_clear_12 : decode cX2_clear 12 = .ok (.putfield 18, 3) := by decide +kernel
theorem dX2_clear_15 : decode cX2_clear 15 = .ok (.aload_n 0, 1) := by decide +kernel
theorem dX2_clear_16 : decode cX2_clear 16 = .ok (.iconst 0, 1) := by decide +kernel
theorem dX2_clear_17 : decode cX2_clear 17 = .ok (.putfield 21, 3) := by decide +kernel
theorem dX2_clear_20 : decode cX2_clear 20 = .ok (.return_, 1) := by decide +kernel
theorem dX2_offer_0 : decode cX2_offer 0 = .ok (.iload_n 2, 1) := by decide +kernel
theorem dX2_offer_1 : decode cX2_offer 1 = .ok (.ifCond .gt 4, 3) := by decide +kernel
theorem dX2_offer_4 : decode cX2_offer 4 = .ok (.return_, 1) := by decide +kernel
theorem dX2_offer_5 : decode cX2_offer 5 = .ok (.aload_n 0, 1) := by decide +kernel
theorem dX2_offer_6 : decode cX2_offer 6 = .ok (.dup, 1) := by decide +kernel
theorem dX2_offer_7 : decode cX2_offer 7 = .ok (.getfield 9, 3) := by decide +kernel
theorem dX2_offer_10 : decode cX2_offer 10 = .ok (.iconst 1, 1) := by decide +kernel
theorem dX2_offer_11 : decode cX2_offer 11 = .ok (.iadd, 1) := by decide +kernel
theorem dX2_offer_12 : decode cX2_offer 12 = .ok (.putfield 9, 3) := by decide +kernel
theorem dX2_offer_15 : decode cX2_offer 15 = .ok (.iload_n 2, 1) := by decide +kernel
theorem dX2_offer_16 : decode cX2_offer 16 = .ok (.aload_n 0, 1) := by decide +kernel
theorem dX2_offer_17 : decode cX2_offer 17 = .ok (.getfield 18, 3) := by decide +kernel
theorem dX2_offer_20 : decode cX2_offer 20 = .ok (.if_icmp .le 24, 3) := by decide +kernel
theorem dX2_offer_23 : decode cX2_offer 23 = .ok (.aload_n 0, 1) := by decide +kernel
theorem dX2_offer_24 : decode cX2_offer 24 = .ok (.aload_n 0, 1) := by decide +kernel
theorem dX2_offer_25 : decode cX2_offer 25 = .ok (.getfield 18, 3) := by decide +kernel
theorem dX2_offer_28 : decode cX2_offer 28 = .ok (.putfield 21, 3) := by decide +kernel
theorem dX2_offer_31 : decode cX2_offer 31 = .ok (.aload_n 0, 1) := by decide +kernel
theorem dX2_offer_32 : decode cX2_offer 32 = .ok (.iload_n 2, 1) := by decide +kernel
theorem dX2_offer_33 : decode cX2_offer 33 = .ok (.putfield 18, 3) := by decide +kernel
theorem dX2_offer_36 : decode cX2_offer 36 = .ok (.aload_n 0, 1) := by decide +kernel
theorem dX2_offer_37 : decode cX2_offer 37 = .ok (.iload_n 1, 1) := by decide +kernel
theorem dX2_offer_38 : decode cX2_offer 38 = .ok (.putfield 15, 3) := by decide +kernel
theorem dX2_offer_41 : decode cX2_offer 41 = .ok (.goto 16, 3) := by decide +kernel
theorem dX2_offer_44 : decode cX2_offer 44 = .ok (.iload_n 2, 1) := by decide +kernel
theorem dX2_offer_45 : decode cX2_offer 45 = .ok (.aload_n 0, 1) := by decide +kernel
theorem dX2_offer_46 : decode cX2_offer 46 = .ok (.getfield 21, 3) := by decide +kernel
theorem dX2_offer_49 : decode cX2_offer 49 = .ok (.if_icmp .le 8, 3) := by decide +kernel
theorem dX2_offer_52 : decode cX2_offer 52 = .ok (.aload_n 0, 1) := by decide +kernel
theorem dX2_offer_53 : decode cX2_offer 53 = .ok (.iload_n 2, 1) := by decide +kernel
theorem dX2_offer_54 : decode cX2_offer 54 = .ok (.putfield 21, 3) := by decide +kernel
theorem dX2_offer_57 : decode cX2_offer 57 = .ok (.return_, 1) := by decide +kernel
theorem dX2_verdict_0 : decode cX2_verdict 0 = .ok (.aload_n 0, 1) := by decide +kernel
theorem dX2_verdict_1 : decode cX2_verdict 1 = .ok (.getfield 18, 3) := by decide +kernel
theorem dX2_verdict_4 : decode cX2_verdict 4 = .ok (.iconst 5, 1) := by decide +kernel
theorem dX2_verdict_5 : decode cX2_verdict 5 = .ok (.if_icmp .lt 21, 3) := by decide +kernel
theorem dX2_verdict_8 : decode cX2_verdict 8 = .ok (.iconst 2, 1) := by decide +kernel
theorem dX2_verdict_9 : decode cX2_verdict 9 = .ok (.aload_n 0, 1) := by decide +kernel
theorem dX2_verdict_10 : decode cX2_verdict 10 = .ok (.getfield 21, 3) := by decide +kernel
theorem dX2_verdict_13 : decode cX2_verdict 13 = .ok (.imul, 1) := by decide +kernel
theorem dX2_verdict_14 : decode cX2_verdict 14 = .ok (.aload_n 0, 1) := by decide +kernel
theorem dX2_verdict_15 : decode cX2_verdict 15 = .ok (.getfield 18, 3) := by decide +kernel
theorem dX2_verdict_18 : decode cX2_verdict 18 = .ok (.if_icmp .gt 8, 3) := by decide +kernel
theorem dX2_verdict_21 : decode cX2_verdict 21 = .ok (.aload_n 0, 1) := by decide +kernel
theorem dX2_verdict_22 : decode cX2_verdict 22 = .ok (.getfield 15, 3) := by decide +kernel
theorem dX2_verdict_25 : decode cX2_verdict 25 = .ok (.ireturn, 1) := by decide +kernel
theorem dX2_verdict_26 : decode cX2_verdict 26 = .ok (.aload_n 0, 1) := by decide +kernel
theorem dX2_verdict_27 : decode cX2_verdict 27 = .ok (.getfield 9, 3) := by decide +kernel
theorem dX2_verdict_30 : decode cX2_verdict 30 = .ok (.iconst 2, 1) := by decide +kernel
theorem dX2_verdict_31 : decode cX2_verdict 31 = .ok (.if_icmp .lt 8, 3) := by decide +kernel
theorem dX2_verdict_34 : decode cX2_verdict 34 = .ok (.bipush (-2), 2) := by decide +kernel
theorem dX2_verdict_36 : decode cX2_verdict 36 = .ok (.goto 4, 3) := by decide +kernel
theorem dX2_verdict_39 : decode cX2_verdict 39 = .ok (.iconst (-1), 1) := by decide +kernel
theorem dX2_verdict_40 : decode cX2_verdict 40 = .ok (.ireturn, 1) := by decide +kernel
theorem dX3_init_0 : decode cX3_init 0 = .ok (.aload_n 0, 1) := by decide +kernel
theorem dX3_init_1 : decode cX3_init 1 = .ok (.invokespecial 3, 3) := by decide +kernel
theorem dX3_init_4 : decode cX3_init 4 = .ok (.aload_n 0, 1) := by decide +kernel
theorem dX3_init_5 : decode cX3_init 5 = .ok (.new 9, 3) := by decide +kernel
theorem dX3_init_8 : decode cX3_init 8 = .ok (.dup, 1) := by decide +kernel
theorem dX3_init_9 : decode cX3_init 9 = .ok (.invokespecial 11, 3) := by decide +kernel
theorem dX3_init_12 : decode cX3_init 12 = .ok (.putfield 12, 3) := by decide +kernel
theorem dX3_init_15 : decode cX3_init 15 = .ok (.aload_n 0, 1) := by decide +kernel
theorem dX3_init_16 : decode cX3_init 16 = .ok (.new 18, 3) := by decide +kernel
theorem dX3_init_19 : decode cX3_init 19 = .ok (.dup, 1) := by decide +kernel
theorem dX3_init_20 : decode cX3_init 20 = .ok (.bipush 40, 2) := by decide +kernel
theorem dX3_init_22 : decode cX3_init 22 = .ok (.iconst 4, 1) := by decide +kernel
theorem dX3_init_23 : decode cX3_init 23 = .ok (.invokespecial 20, 3) := by decide +kernel
theorem dX3_init_26 : decode cX3_init 26 = .ok (.putfield 23, 3) := by decide +kernel
theorem dX3_init_29 : decode cX3_init 29 = .ok (.return_, 1) := by decide +kernel
theorem dX3_begin_0 : decode cX3_begin 0 = .ok (.aload_n 0, 1) := by decide +kernel
theorem dX3_begin_1 : decode cX3_begin 1 = .ok (.getfield 12, 3) := by decide +kernel
theorem dX3_begin_4 : decode cX3_begin 4 = .ok (.iload_n 1, 1) := by decide +kernel
theorem dX3_begin_5 : decode cX3_begin 5 = .ok (.iconst 0, 1) := by decide +kernel
theorem dX3_begin_6 : decode cX3_begin 6 = .ok (.invokevirtual 27, 3) := by decide +kernel
theorem dX3_begin_9 : decode cX3_begin 9 = .ok (.aload_n 0, 1) := by decide +kernel
theorem dX3_begin_10 : decode cX3_begin 10 = .ok (.getfield 12, 3) := by decide +kernel
theorem dX3_begin_13 : decode cX3_begin 13 = .ok (.iload_n 2, 1) := by decide +kernel
theorem dX3_begin_14 : decode cX3_begin 14 = .ok (.putfield 30, 3) := by decide +kernel
theorem dX3_begin_17 : decode cX3_begin 17 = .ok (.aload_n 0, 1) := by decide +kernel
theorem dX3_begin_18 : decode cX3_begin 18 = .ok (.getfield 12, 3) := by decide +kernel
theorem dX3_begin_21 : decode cX3_begin 21 = .ok (.bipush 9, 2) := by decide +kernel
theorem dX3_begin_23 : decode cX3_begin 23 = .ok (.putfield 34, 3) := by decide +kernel
theorem dX3_begin_26 : decode cX3_begin 26 = .ok (.aload_n 0, 1) := by decide +kernel
theorem dX3_begin_27 : decode cX3_begin 27 = .ok (.iconst 1, 1) := by decide +kernel
theorem dX3_begin_28 : decode cX3_begin 28 = .ok (.putfield 37, 3) := by decide +kernel
theorem dX3_begin_31 : decode cX3_begin 31 = .ok (.aload_n 0, 1) := by decide +kernel
theorem dX3_begin_32 : decode cX3_begin 32 = .ok (.getfield 23, 3) := by decide +kernel
theorem dX3_begin_35 : decode cX3_begin 35 = .ok (.iconst 0, 1) := by decide +kernel
theorem dX3_begin_36 : decode cX3_begin 36 = .ok (.putfield 41, 3) := by decide +kernel
theorem dX3_begin_39 : decode cX3_begin 39 = .ok (.return_, 1) := by decide +kernel
theorem dX3_copyFrom_0 : decode cX3_copyFrom 0 = .ok (.aload_n 0, 1) := by decide +kernel
theorem dX3_copyFrom_1 : decode cX3_copyFrom 1 = .ok (.getfield 12, 3) := by decide +kernel
theorem dX3_copyFrom_4 : decode cX3_copyFrom 4 = .ok (.aload_n 1, 1) := by decide +kernel
theorem dX3_copyFrom_5 : decode cX3_copyFrom 5 = .ok (.getfield 12, 3) := by decide +kernel
theorem dX3_copyFrom_8 : decode cX3_copyFrom 8 = .ok (.invokevirtual 44, 3) := by decide +kernel
theorem dX3_copyFrom_11 : decode cX3_copyFrom 11 = .ok (.aload_n 0, 1) := by decide +kernel
theorem dX3_copyFrom_12 : decode cX3_copyFrom 12 = .ok (.getfield 23, 3) := by decide +kernel
theorem dX3_copyFrom_15 : decode cX3_copyFrom 15 = .ok (.aload_n 1, 1) := by decide +kernel
theorem dX3_copyFrom_16 : decode cX3_copyFrom 16 = .ok (.getfield 23, 3) := by decide +kernel
theorem dX3_copyFrom_19 : decode cX3_copyFrom 19 = .ok (.invokevirtual 48, 3) := by decide +kernel
theorem dX3_copyFrom_22 : decode cX3_copyFrom 22 = .ok (.aload_n 0, 1) := by decide +kernel
theorem dX3_copyFrom_23 : decode cX3_copyFrom 23 = .ok (.aload_n 1, 1) := by decide +kernel
theorem dX3_copyFrom_24 : decode cX3_copyFrom 24 = .ok (.getfield 37, 3) := by decide +kernel
theorem dX3_copyFrom_27 : decode cX3_copyFrom 27 = .ok (.putfield 37, 3) := by decide +kernel
theorem dX3_copyFrom_30 : decode cX3_copyFrom 30 = .ok (.return_, 1) := by decide +kernel
theorem dX3_hasLineOf_0 : decode cX3_hasLineOf 0 = .ok (.iconst 0, 1) := by decide +kernel
theorem dX3_hasLineOf_1 : decode cX3_hasLineOf 1 = .ok (.istore_n 3, 1) := by decide +kernel
theorem dX3_hasLineOf_2 : decode cX3_hasLineOf 2 = .ok (.iload_n 3, 1) := by decide +kernel
theorem dX3_hasLineOf_3 : decode cX3_hasLineOf 3 = .ok (.aload_n 0, 1) := by decide +kernel
theorem dX3_hasLineOf_4 : decode cX3_hasLineOf 4 = .ok (.getfield 23, 3) := by decide +kernel
theorem dX3_hasLineOf_7 : decode cX3_hasLineOf 7 = .ok (.getfield 41, 3) := by decide +kernel
theorem dX3_hasLineOf_10 : decode cX3_hasLineOf 10 = .ok (.if_icmp .ge 40, 3) := by decide +kernel
theorem dX3_hasLineOf_13 : decode cX3_hasLineOf 13 = .ok (.aload_n 0, 1) := by decide +kernel
theorem dX3_hasLineOf_14 : decode cX3_hasLineOf 14 = .ok (.getfield 23, 3) := by decide +kernel
theorem dX3_hasLineOf_17 : decode cX3_hasLineOf 17 = .ok (.iload_n 3, 1) := by decide +kernel
theorem dX3_hasLineOf_18 : decode cX3_hasLineOf 18 = .ok (.iconst 1, 1) := by decide +kernel
theorem dX3_hasLineOf_19 : decode cX3_hasLineOf 19 = .ok (.invokevirtual 51, 3) := by decide +kernel
theorem dX3_hasLineOf_22 : decode cX3_hasLineOf 22 = .ok (.iload_n 1, 1) := by decide +kernel
theorem dX3_hasLineOf_23 : decode cX3_hasLineOf 23 = .ok (.if_icmp .ne 21, 3) := by decide +kernel
theorem dX3_hasLineOf_26 : decode cX3_hasLineOf 26 = .ok (.aload_n 0, 1) := by decide +kernel
theorem dX3_hasLineOf_27 : decode cX3_hasLineOf 27 = .ok (.getfield 23, 3) := by decide +kernel
theorem dX3_hasLineOf_30 : decode cX3_hasLineOf 30 = .ok (.iload_n 3, 1) := by decide +kernel
theorem dX3_hasLineOf_31 : decode cX3_hasLineOf 31 = .ok (.iconst 0, 1) := by decide +kernel
theorem dX3_hasLineOf_32 : decode cX3_hasLineOf 32 = .ok (.invokevirtual 51, 3) := by decide +kernel
theorem dX3_hasLineOf_35 : decode cX3_hasLineOf 35 = .ok (.bipush 24, 2) := by decide +kernel
theorem dX3_hasLineOf_37 : decode cX3_hasLineOf 37 = .ok (.idiv, 1) := by decide +kernel
theorem dX3_hasLineOf_38 : decode cX3_hasLineOf 38 = .ok (.iload_n 2, 1) := by decide +kernel
theorem dX3_hasLineOf_39 : decode cX3_hasLineOf 39 = .ok (.if_icmp .ne 5, 3) := by decide +kernel
theorem dX3_hasLineOf_42 : decode cX3_hasLineOf 42 = .ok (.iconst 1, 1) := by decide +kernel
theorem dX3_hasLineOf_43 : decode cX3_hasLineOf 43 = .ok (.ireturn, 1) := by decide +kernel
theorem dX3_hasLineOf_44 : decode cX3_hasLineOf 44 = .ok (.iinc 3 1, 3) := by decide +kernel
theorem dX3_hasLineOf_47 : decode cX3_hasLineOf 47 = .ok (.goto (-45), 3) := by decide +kernel
theorem dX3_hasLineOf_50 : decode cX3_hasLineOf 50 = .ok (.iconst 0, 1) := by decide +kernel
theorem dX3_hasLineOf_51 : decode cX3_hasLineOf 51 = .ok (.ireturn, 1) := by decide +kernel
theorem dX3_cards_0 : decode cX3_cards 0 = .ok (.iconst 0, 1) := by decide +kernel
theorem dX3_cards_1 : decode cX3_cards 1 = .ok (.istore_n 1, 1) := by decide +kernel
theorem dX3_cards_2 : decode cX3_cards 2 = .ok (.iconst 0, 1) := by decide +kernel
theorem dX3_cards_3 : decode cX3_cards 3 = .ok (.istore_n 2, 1) := by decide +kernel
theorem dX3_cards_4 : decode cX3_cards 4 = .ok (.iload_n 2, 1) := by decide +kernel
theorem dX3_cards_5 : decode cX3_cards 5 = .ok (.aload_n 0, 1) := by decide +kernel
theorem dX3_cards_6 : decode cX3_cards 6 = .ok (.getfield 23, 3) := by decide +kernel
theorem dX3_cards_9 : decode cX3_cards 9 = .ok (.getfield 41, 3) := by decide +kernel
theorem dX3_cards_12 : decode cX3_cards 12 = .ok (.if_icmp .ge 36, 3) := by decide +kernel
theorem dX3_cards_15 : decode cX3_cards 15 = .ok (.aload_n 0, 1) := by decide +kernel
theorem dX3_cards_16 : decode cX3_cards 16 = .ok (.getfield 23, 3) := by decide +kernel
theorem dX3_cards_19 : decode cX3_cards 19 = .ok (.iload_n 2, 1) := by decide +kernel
theorem dX3_cards_20 : decode cX3_cards 20 = .ok (.iconst 3, 1) := by decide +kernel
theorem dX3_cards_21 : decode cX3_cards 21 = .ok (.invokevirtual 51, 3) := by decide +kernel
theorem dX3_cards_24 : decode cX3_cards 24 = .ok (.iconst 1, 1) := by decide +kernel
theorem dX3_cards_25 : decode cX3_cards 25 = .ok (.if_icmp .ne 17, 3) := by decide +kernel
theorem dX3_cards_28 : decode cX3_cards 28 = .ok (.iload_n 1, 1) := by decide +kernel
theorem dX3_cards_29 : decode cX3_cards 29 = .ok (.iconst 1, 1) := by decide +kernel
theorem dX3_cards_30 : decode cX3_cards 30 = .ok (.aload_n 0, 1) := by decide +kernel
theorem dX3_cards_31 : decode cX3_cards 31 = .ok (.getfield 23, 3) := by decide +kernel
theorem dX3_cards_34 : decode cX3_cards 34 = .ok (.iload_n 2, 1) := by decide +kernel
theorem dX3_cards_35 : decode cX3_cards 35 = .ok (.iconst 1, 1) := by decide +kernel
theorem dX3_cards_36 : decode cX3_cards 36 = .ok (.invokevirtual 51, 3) := by decide +kernel
theorem dX3_cards_39 : decode cX3_cards 39 = .ok (.ishl, 1) := by decide +kernel
theorem dX3_cards_40 : decode cX3_cards 40 = .ok (.ior, 1) := by decide +kernel
theorem dX3_cards_41 : decode cX3_cards 41 = .ok (.istore_n 1, 1) := by decide +kernel
theorem dX3_cards_42 : decode cX3_cards 42 = .ok (.iinc 2 1, 3) := by decide +kernel
theorem dX3_cards_45 : decode cX3_cards 45 = .ok (.goto (-41), 3) := by decide +kernel
theorem dX3_cards_48 : decode cX3_cards 48 = .ok (.iload_n 1, 1) := by decide +kernel
theorem dX3_cards_49 : decode cX3_cards 49 = .ok (.ireturn, 1) := by decide +kernel
theorem dX3_addLine_0 : decode cX3_addLine 0 = .ok (.aload_n 0, 1) := by decide +kernel
theorem dX3_addLine_1 : decode cX3_addLine 1 = .ok (.getfield 23, 3) := by decide +kernel
theorem dX3_addLine_4 : decode cX3_addLine 4 = .ok (.getfield 41, 3) := by decide +kernel
theorem dX3_addLine_7 : decode cX3_addLine 7 = .ok (.istore 4, 2) := by decide +kernel
theorem dX3_addLine_9 : decode cX3_addLine 9 = .ok (.aload_n 0, 1) := by decide +kernel
theorem dX3_addLine_10 : decode cX3_addLine 10 = .ok (.getfield 23, 3) := by decide +kernel
theorem dX3_addLine_13 : decode cX3_addLine 13 = .ok (.iload 4, 2) := by decide +kernel
theorem dX3_addLine_15 : decode cX3_addLine 15 = .ok (.iconst 0, 1) := by decide +kernel
theorem dX3_addLine_16 : decode cX3_addLine 16 = .ok (.iload_n 1, 1) := by decide +kernel
theorem dX3_addLine_17 : decode cX3_addLine 17 = .ok (.invokevirtual 55, 3) := by decide +kernel
theorem dX3_addLine_20 : decode cX3_addLine 20 = .ok (.aload_n 0, 1) := by decide +kernel
theorem dX3_addLine_21 : decode cX3_addLine 21 = .ok (.getfield 23, 3) := by decide +kernel
theorem dX3_addLine_24 : decode cX3_addLine 24 = .ok (.iload 4, 2) := by decide +kernel
theorem dX3_addLine_26 : decode cX3_addLine 26 = .ok (.iconst 1, 1) := by decide +kernel
theorem dX3_addLine_27 : decode cX3_addLine 27 = .ok (.iload_n 2, 1) := by decide +kernel
theorem dX3_addLine_28 : decode cX3_addLine 28 = .ok (.invokevirtual 55, 3) := by decide +kernel
theorem dX3_addLine_31 : decode cX3_addLine 31 = .ok (.aload_n 0, 1) := by decide +kernel
theorem dX3_addLine_32 : decode cX3_addLine 32 = .ok (.getfield 23, 3) := by decide +kernel
theorem dX3_addLine_35 : decode cX3_addLine 35 = .ok (.iload 4, 2) := by decide +kernel
theorem dX3_addLine_37 : decode cX3_addLine 37 = .ok (.iconst 2, 1) := by decide +kernel
theorem dX3_addLine_38 : decode cX3_addLine 38 = .ok (.iload_n 3, 1) := by decide +kernel
theorem dX3_addLine_39 : decode cX3_addLine 39 = .ok (.invokevirtual 55, 3) := by decide +kernel
theorem dX3_addLine_42 : decode cX3_addLine 42 = .ok (.aload_n 0, 1) := by decide +kernel
theorem dX3_addLine_43 : decode cX3_addLine 43 = .ok (.getfield 23, 3) := by decide +kernel
theorem dX3_addLine_46 : decode cX3_addLine 46 = .ok (.iload 4, 2) := by decide +kernel
theorem dX3_addLine_48 : decode cX3_addLine 48 = .ok (.iconst 3, 1) := by decide +kernel
theorem dX3_addLine_49 : decode cX3_addLine 49 = .ok (.iconst 0, 1) := by decide +kernel
theorem dX3_addLine_50 : decode cX3_addLine 50 = .ok (.invokevirtual 55, 3) := by decide +kernel
theorem dX3_addLine_53 : decode cX3_addLine 53 = .ok (.aload_n 0, 1) := by decide +kernel
theorem dX3_addLine_54 : decode cX3_addLine 54 = .ok (.getfield 23, 3) := by decide +kernel
theorem dX3_addLine_57 : decode cX3_addLine 57 = .ok (.dup, 1) := by decide +kernel
theorem dX3_addLine_58 : decode cX3_addLine 58 = .ok (.getfield 41, 3) := by decide +kernel
theorem dX3_addLine_61 : decode cX3_addLine 61 = .ok (.iconst 1, 1) := by decide +kernel
theorem dX3_addLine_62 : decode cX3_addLine 62 = .ok (.iadd, 1) := by decide +kernel
theorem dX3_addLine_63 : decode cX3_addLine 63 = .ok (.putfield 41, 3) := by decide +kernel
theorem dX3_addLine_66 : decode cX3_addLine 66 = .ok (.return_, 1) := by decide +kernel
theorem dX3_takeAnswer_0 : decode cX3_takeAnswer 0 = .ok (.aload_n 0, 1) := by decide +kernel
theorem dX3_takeAnswer_1 : decode cX3_takeAnswer 1 = .ok (.getfield 23, 3) := by decide +kernel
theorem dX3_takeAnswer_4 : decode cX3_takeAnswer 4 = .ok (.iload_n 1, 1) := by decide +kernel
theorem dX3_takeAnswer_5 : decode cX3_takeAnswer 5 = .ok (.iconst 2, 1) := by decide +kernel
theorem dX3_takeAnswer_6 : decode cX3_takeAnswer 6 = .ok (.invokevirtual 51, 3) := by decide +kernel
theorem dX3_takeAnswer_9 : decode cX3_takeAnswer 9 = .ok (.bipush 8, 2) := by decide +kernel
theorem dX3_takeAnswer_11 : decode cX3_takeAnswer 11 = .ok (.if_icmp .lt 13, 3) := by decide +kernel
theorem dX3_takeAnswer_14 : decode cX3_takeAnswer 14 = .ok (.aload_n 0, 1) := by decide +kernel
theorem dX3_takeAnswer_15 : decode cX3_takeAnswer 15 = .ok (.getfield 23, 3) := by decide +kernel
theorem dX3_takeAnswer_18 : decode cX3_takeAnswer 18 = .ok (.iload_n 1, 1) := by decide +kernel
theorem dX3_takeAnswer_19 : decode cX3_takeAnswer 19 = .ok (.iconst 3, 1) := by decide +kernel
theorem dX3_takeAnswer_20 : decode cX3_takeAnswer 20 = .ok (.iconst 1, 1) := by decide +kernel
theorem dX3_takeAnswer_21 : decode cX3_takeAnswer 21 = .ok (.invokevirtual 55, 3) := by decide +kernel
theorem dX3_takeAnswer_24 : decode cX3_takeAnswer 24 = .ok (.return_, 1) := by decide +kernel
theorem dX3_wearCrystal_0 : decode cX3_wearCrystal 0 = .ok (.aload_n 0, 1) := by decide +kernel
theorem dX3_wearCrystal_1 : decode cX3_wearCrystal 1 = .ok (.getfield 37, 3) := by decide +kernel
theorem dX3_wearCrystal_4 : decode cX3_wearCrystal 4 = .ok (.ifCond .eq 26, 3) := by decide +kernel
theorem dX3_wearCrystal_7 : decode cX3_wearCrystal 7 = .ok (.aload_n 0, 1) := by decide +kernel
theorem dX3_wearCrystal_8 : decode cX3_wearCrystal 8 = .ok (.getfield 12, 3) := by decide +kernel
theorem dX3_wearCrystal_11 : decode cX3_wearCrystal 11 = .ok (.getfield 34, 3) := by decide +kernel
theorem dX3_wearCrystal_14 : decode cX3_wearCrystal 14 = .ok (.ifCond .le 16, 3) := by decide +kernel
theorem dX3_wearCrystal_17 : decode cX3_wearCrystal 17 = .ok (.aload_n 0, 1) := by decide +kernel
theorem dX3_wearCrystal_18 : decode cX3_wearCrystal 18 = .ok (.getfield 12, 3) := by decide +kernel
theorem dX3_wearCrystal_21 : decode cX3_wearCrystal 21 = .ok (.dup, 1) := by decide +kernel
theorem dX3_wearCrystal_22 : decode cX3_wearCrystal 22 = .ok (.getfield 34, 3) := by decide +kernel
theorem dX3_wearCrystal_25 : decode cX3_wearCrystal 25 = .ok (.iconst 1, 1) := by decide +kernel
theorem dX3_wearCrystal_26 : decode cX3_wearCrystal 26 = .ok (.isub, 1) := by decide +kernel
theorem dX3_wearCrystal_27 : decode cX3_wearCrystal 27 = .ok (.putfield 34, 3) := by decide +kernel
theorem dX3_wearCrystal_30 : decode cX3_wearCrystal 30 = .ok (.return_, 1) := by decide +kernel
theorem dX4_init_0 : decode cX4_init 0 = .ok (.aload_n 0, 1) := by decide +kernel
theorem dX4_init_1 : decode cX4_init 1 = .ok (.invokespecial 3, 3) := by decide +kernel
theorem dX4_init_4 : decode cX4_init 4 = .ok (.aload_n 0, 1) := by decide +kernel
theorem dX4_init_5 : decode cX4_init 5 = .ok (.iload_n 1, 1) := by decide +kernel
theorem dX4_init_6 : decode cX4_init 6 = .ok (.putfield 9, 3) := by decide +kernel
theorem dX4_init_9 : decode cX4_init 9 = .ok (.aload_n 0, 1) := by decide +kernel
theorem dX4_init_10 : decode cX4_init 10 = .ok (.iload_n 2, 1) := by decide +kernel
theorem dX4_init_11 : decode cX4_init 11 = .ok (.putfield 15, 3) := by decide +kernel
theorem dX4_init_14 : decode cX4_init 14 = .ok (.aload_n 0, 1) := by decide +kernel
theorem dX4_init_15 : decode cX4_init 15 = .ok (.iload_n 3, 1) := by decide +kernel
theorem dX4_init_16 : decode cX4_init 16 = .ok (.putfield 18, 3) := by decide +kernel
theorem dX4_init_19 : decode cX4_init 19 = .ok (.aload_n 0, 1) := by decide +kernel
theorem dX4_init_20 : decode cX4_init 20 = .ok (.iload 4, 2) := by decide +kernel
theorem dX4_init_22 : decode cX4_init 22 = .ok (.putfield 21, 3) := by decide +kernel
theorem dX4_init_25 : decode cX4_init 25 = .ok (.aload_n 0, 1) := by decide +kernel
theorem dX4_init_26 : decode cX4_init 26 = .ok (.iload 5, 2) := by decide +kernel
theorem dX4_init_28 : decode cX4_init 28 = .ok (.putfield 24, 3) := by decide +kernel
theorem dX4_init_31 : decode cX4_init 31 = .ok (.aload_n 0, 1) := by decide +kernel
theorem dX4_init_32 : decode cX4_init 32 = .ok (.iload 6, 2) := by decide +kernel
theorem dX4_init_34 : decode cX4_init 34 = .ok (.putfield 27, 3) := by decide +kernel
theorem dX4_init_37 : decode cX4_init 37 = .ok (.return_, 1) := by decide +kernel
theorem dX4_isOnAir_0 : decode cX4_isOnAir 0 = .ok (.iload_n 1, 1) := by decide +kernel
theorem dX4_isOnAir_1 : decode cX4_isOnAir 1 = .ok (.bipush 24, 2) := by decide +kernel
theorem dX4_isOnAir_3 : decode cX4_isOnAir 3 = .ok (.irem, 1) := by decide +kernel
theorem dX4_isOnAir_4 : decode cX4_isOnAir 4 = .ok (.aload_n 0, 1) := by decide +kernel
theorem dX4_isOnAir_5 : decode cX4_isOnAir 5 = .ok (.getfield 21, 3) := by decide +kernel
theorem dX4_isOnAir_8 : decode cX4_isOnAir 8 = .ok (.isub, 1) := by decide +kernel
theorem dX4_isOnAir_9 : decode cX4_isOnAir 9 = .ok (.bipush 24, 2) := by decide +kernel
theorem dX4_isOnAir_11 : decode cX4_isOnAir 11 = .ok (.iadd, 1) := by decide +kernel
theorem dX4_isOnAir_12 : decode cX4_isOnAir 12 = .ok (.bipush 24, 2) := by decide +kernel
theorem dX4_isOnAir_14 : decode cX4_isOnAir 14 = .ok (.irem, 1) := by decide +kernel
theorem dX4_isOnAir_15 : decode cX4_isOnAir 15 = .ok (.istore_n 2, 1) := by decide +kernel
theorem dX4_isOnAir_16 : decode cX4_isOnAir 16 = .ok (.iload_n 2, 1) := by decide +kernel
theorem dX4_isOnAir_17 : decode cX4_isOnAir 17 = .ok (.aload_n 0, 1) := by decide +kernel
theorem dX4_isOnAir_18 : decode cX4_isOnAir 18 = .ok (.getfield 24, 3) := by decide +kernel
theorem dX4_isOnAir_21 : decode cX4_isOnAir 21 = .ok (.if_icmp .ge 7, 3) := by decide +kernel
theorem dX4_isOnAir_24 : decode cX4_isOnAir 24 = .ok (.iconst 1, 1) := by decide +kernel
theorem dX4_isOnAir_25 : decode cX4_isOnAir 25 = .ok (.goto 4, 3) := by decide +kernel
theorem dX4_isOnAir_28 : decode cX4_isOnAir 28 = .ok (.iconst 0, 1) := by decide +kernel
theorem dX4_isOnAir_29 : decode cX4_isOnAir 29 = .ok (.ireturn, 1) := by decide +kernel
theorem dX4_fading_0 : decode cX4_fading 0 = .ok (.iload_n 1, 1) := by decide +kernel
theorem dX4_fading_1 : decode cX4_fading 1 = .ok (.aload_n 0, 1) := by decide +kernel
theorem dX4_fading_2 : decode cX4_fading 2 = .ok (.getfield 27, 3) := by decide +kernel
theorem dX4_fading_5 : decode cX4_fading 5 = .ok (.iadd, 1) := by decide +kernel
theorem dX4_fading_6 : decode cX4_fading 6 = .ok (.bipush 12, 2) := by decide +kernel
theorem dX4_fading_8 : decode cX4_fading 8 = .ok (.irem, 1) := by decide +kernel
theorem dX4_fading_9 : decode cX4_fading 9 = .ok (.bipush 6, 2) := by decide +kernel
theorem dX4_fading_11 : decode cX4_fading 11 = .ok (.isub, 1) := by decide +kernel
theorem dX4_fading_12 : decode cX4_fading 12 = .ok (.istore_n 2, 1) := by decide +kernel
theorem dX4_fading_13 : decode cX4_fading 13 = .ok (.iconst 4, 1) := by decide +kernel
theorem dX4_fading_14 : decode cX4_fading 14 = .ok (.iload_n 2, 1) := by decide +kernel
theorem dX4_fading_15 : decode cX4_fading 15 = .ok (.ifCond .ge 8, 3) := by decide +kernel
theorem dX4_fading_18 : decode cX4_fading 18 = .ok (.iload_n 2, 1) := by decide +kernel
theorem dX4_fading_19 : decode cX4_fading 19 = .ok (.ineg, 1) := by decide +kernel
theorem dX4_fading_20 : decode cX4_fading 20 = .ok (.goto 4, 3) := by decide +kernel
theorem dX4_fading_23 : decode cX4_fading 23 = .ok (.iload_n 2, 1) := by decide +kernel
theorem dX4_fading_24 : decode cX4_fading 24 = .ok (.iadd, 1) := by decide +kernel
theorem dX4_fading_25 : decode cX4_fading 25 = .ok (.ireturn, 1) := by decide +kernel
theorem dX4_daysOfMail_0 : decode cX4_daysOfMail 0 = .ok (.aload_n 0, 1) := by decide +kernel
theorem dX4_daysOfMail_1 : decode cX4_daysOfMail 1 = .ok (.getfield 18, 3) := by decide +kernel
theorem dX4_daysOfMail_4 : decode cX4_daysOfMail 4 = .ok (.bipush 10, 2) := by decide +kernel
theorem dX4_daysOfMail_6 : decode cX4_daysOfMail 6 = .ok (.idiv, 1) := by decide +kernel
theorem dX4_daysOfMail_7 : decode cX4_daysOfMail 7 = .ok (.iconst 2, 1) := by decide +kernel
theorem dX4_daysOfMail_8 : decode cX4_daysOfMail 8 = .ok (.iadd, 1) := by decide +kernel
theorem dX4_daysOfMail_9 : decode cX4_daysOfMail 9 = .ok (.ireturn, 1) := by decide +kernel
theorem dX5_init_0 : decode cX5_init 0 = .ok (.aload_n 0, 1) := by decide +kernel
theorem dX5_init_1 : decode cX5_init 1 = .ok (.invokespecial 1, 3) := by decide +kernel
theorem dX5_init_4 : decode cX5_init 4 = .ok (.aload_n 0, 1) := by decide +kernel
theorem dX5_init_5 : decode cX5_init 5 = .ok (.iload_n 2, 1) := by decide +kernel
theorem dX5_init_6 : decode cX5_init 6 = .ok (.putfield 7, 3) := by decide +kernel
theorem dX5_init_9 : decode cX5_init 9 = .ok (.aload_n 0, 1) := by decide +kernel
theorem dX5_init_10 : decode cX5_init 10 = .ok (.iconst 0, 1) := by decide +kernel
theorem dX5_init_11 : decode cX5_init 11 = .ok (.iload_n 1, 1) := by decide +kernel
theorem dX5_init_12 : decode cX5_init 12 = .ok (.iload_n 2, 1) := by decide +kernel
theorem dX5_init_13 : decode cX5_init 13 = .ok (.imul, 1) := by decide +kernel
theorem dX5_init_14 : decode cX5_init 14 = .ok (.invokestatic 13, 3) := by decide +kernel
theorem dX5_init_17 : decode cX5_init 17 = .ok (.newarray .int, 2) := by decide +kernel
theorem dX5_init_19 : decode cX5_init 19 = .ok (.putfield 19, 3) := by decide +kernel
theorem dX5_init_22 : decode cX5_init 22 = .ok (.return_, 1) := by decide +kernel
theorem dX5_isFull_0 : decode cX5_isFull 0 = .ok (.aload_n 0, 1) := by decide +kernel
theorem dX5_isFull_1 : decode cX5_isFull 1 = .ok (.getfield 23, 3) := by decide +kernel
theorem dX5_isFull_4 : decode cX5_isFull 4 = .ok (.iconst 1, 1) := by decide +kernel
theorem dX5_isFull_5 : decode cX5_isFull 5 = .ok (.iadd, 1) := by decide +kernel
theorem dX5_isFull_6 : decode cX5_isFull 6 = .ok (.aload_n 0, 1) := by decide +kernel
theorem dX5_isFull_7 : decode cX5_isFull 7 = .ok (.getfield 7, 3) := by decide +kernel
theorem dX5_isFull_10 : decode cX5_isFull 10 = .ok (.imul, 1) := by decide +kernel
theorem dX5_isFull_11 : decode cX5_isFull 11 = .ok (.aload_n 0, 1) := by decide +kernel
theorem dX5_isFull_12 : decode cX5_isFull 12 = .ok (.getfield 19, 3) := by decide +kernel
theorem dX5_isFull_15 : decode cX5_isFull 15 = .ok (.arraylength, 1) := by decide +kernel
theorem dX5_isFull_16 : decode cX5_isFull 16 = .ok (.if_icmp .le 7, 3) := by decide +kernel
theorem dX5_isFull_19 : decode cX5_isFull 19 = .ok (.iconst 1, 1) := by decide +kernel
theorem dX5_isFull_20 : decode cX5_isFull 20 = .ok (.goto 4, 3) := by decide +kernel
theorem dX5_isFull_23 : decode cX5_isFull 23 = .ok (.iconst 0, 1) := by decide +kernel
theorem dX5_isFull_24 : decode cX5_isFull 24 = .ok (.ireturn, 1) := by decide +kernel
theorem dX5_at_0 : decode cX5_at 0 = .ok (.iload_n 1, 1) := by decide +kernel
theorem dX5_at_1 : decode cX5_at 1 = .ok (.aload_n 0, 1) := by decide +kernel
theorem dX5_at_2 : decode cX5_at 2 = .ok (.getfield 7, 3) := by decide +kernel
theorem dX5_at_5 : decode cX5_at 5 = .ok (.imul, 1) := by decide +kernel
theorem dX5_at_6 : decode cX5_at 6 = .ok (.iload_n 2, 1) := by decide +kernel
theorem dX5_at_7 : decode cX5_at 7 = .ok (.iadd, 1) := by decide +kernel
theorem dX5_at_8 : decode cX5_at 8 = .ok (.istore_n 3, 1) := by decide +kernel
theorem dX5_at_9 : decode cX5_at 9 = .ok (.iload_n 3, 1) := by decide +kernel
theorem dX5_at_10 : decode cX5_at 10 = .ok (.ifCond .lt 21, 3) := by decide +kernel
theorem dX5_at_13 : decode cX5_at 13 = .ok (.iload_n 3, 1) := by decide +kernel
theorem dX5_at_14 : decode cX5_at 14 = .ok (.aload_n 0, 1) := by decide +kernel
theorem dX5_at_15 : decode cX5_at 15 = .ok (.getfield 19, 3) := by decide +kernel
theorem dX5_at_18 : decode cX5_at 18 = .ok (.arraylength, 1) := by decide +kernel
theorem dX5_at_19 : decode cX5_at 19 = .ok (.if_icmp .ge 12, 3) := by decide +kernel
theorem dX5_at_22 : decode cX5_at 22 = .ok (.aload_n 0, 1) := by decide +kernel
theorem dX5_at_23 : decode cX5_at 23 = .ok (.getfield 19, 3) := by decide +kernel
theorem dX5_at_26 : decode cX5_at 26 = .ok (.iload_n 3, 1) := by decide +kernel
theorem dX5_at_27 : decode cX5_at 27 = .ok (.iaload, 1) := by decide +kernel
theorem dX5_at_28 : decode cX5_at 28 = .ok (.goto 4, 3) := by decide +kernel
theorem dX5_at_31 : decode cX5_at 31 = .ok (.iconst 0, 1) := by decide +kernel
theorem dX5_at_32 : decode cX5_at 32 = .ok (.ireturn, 1) := by decide +kernel
theorem dX5_put_0 : decode cX5_put 0 = .ok (.iload_n 1, 1) := by decide +kernel
theorem dX5_put_1 : decode cX5_put 1 = .ok (.aload_n 0, 1) := by decide +kernel
theorem dX5_put_2 : decode cX5_put 2 = .ok (.getfield 7, 3) := by decide +kernel
theorem dX5_put_5 : decode cX5_put 5 = .ok (.imul, 1) := by decide +kernel
theorem dX5_put_6 : decode cX5_put 6 = .ok (.iload_n 2, 1) := by decide +kernel
theorem dX5_put_7 : decode cX5_put 7 = .ok (.iadd, 1) := by decide +kernel
theorem dX5_put_8 : decode cX5_put 8 = .ok (.istore 4, 2) := by decide +kernel
theorem dX5_put_10 : decode cX5_put 10 = .ok (.iload 4, 2) := by decide +kernel
theorem dX5_put_12 : decode cX5_put 12 = .ok (.ifCond .lt 21, 3) := by decide +kernel
theorem dX5_put_15 : decode cX5_put 15 = .ok (.iload 4, 2) := by decide +kernel
theorem dX5_put_17 : decode cX5_put 17 = .ok (.aload_n 0, 1) := by decide +kernel
theorem dX5_put_18 : decode cX5_put 18 = .ok (.getfield 19, 3) := by decide +kernel
theorem dX5_put_21 : decode cX5_put 21 = .ok (.arraylength, 1) := by decide +kernel
theorem dX5_put_22 : decode cX5_put 22 = .ok (.if_icmp .ge 11, 3) := by decide +kernel
theorem dX5_put_25 : decode cX5_put 25 = .ok (.aload_n 0, 1) := by decide +kernel
theorem dX5_put_26 : decode cX5_put 26 = .ok (.getfield 19, 3) := by decide +kernel
theorem dX5_put_29 : decode cX5_put 29 = .ok (.iload 4, 2) := by decide +kernel
theorem dX5_put_31 : decode cX5_put 31 = .ok (.iload_n 3, 1) := by decide +kernel
theorem dX5_put_32 : decode cX5_put 32 = .ok (.iastore, 1) := by decide +kernel
theorem dX5_put_33 : decode cX5_put 33 = .ok (.return_, 1) := by decide +kernel
theorem dX5_copyRow_0 : decode cX5_copyRow 0 = .ok (.iconst 0, 1) := by decide +kernel
theorem dX5_copyRow_1 : decode cX5_copyRow 1 = .ok (.istore_n 3, 1) := by decide +kernel
theorem dX5_copyRow_2 : decode cX5_copyRow 2 = .ok (.iload_n 3, 1) := by decide +kernel
theorem dX5_copyRow_3 : decode cX5_copyRow 3 = .ok (.aload_n 0, 1) := by decide +kernel
theorem dX5_copyRow_4 : decode cX5_copyRow 4 = .ok (.getfield 7, 3) := by decide +kernel
theorem dX5_copyRow_7 : decode cX5_copyRow 7 = .ok (.if_icmp .ge 21, 3) := by decide +kernel
theorem dX5_copyRow_10 : decode cX5_copyRow 10 = .ok (.aload_n 0, 1) := by decide +kernel
theorem dX5_copyRow_11 : decode cX5_copyRow 11 = .ok (.iload_n 2, 1) := by decide +kernel
theorem dX5_copyRow_12 : decode cX5_copyRow 12 = .ok (.iload_n 3, 1) := by decide +kernel
theorem dX5_copyRow_13 : decode cX5_copyRow 13 = .ok (.aload_n 0, 1) := by decide +kernel
theorem dX5_copyRow_14 : decode cX5_copyRow 14 = .ok (.iload_n 1, 1) := by decide +kernel
theorem dX5_copyRow_15 : decode cX5_copyRow 15 = .ok (.iload_n 3, 1) := by decide +kernel
theorem dX5_copyRow_16 : decode cX5_copyRow 16 = .ok (.invokevirtual 26, 3) := by decide +kernel
theorem dX5_copyRow_19 : decode cX5_copyRow 19 = .ok (.invokevirtual 29, 3) := by decide +kernel
theorem dX5_copyRow_22 : decode cX5_copyRow 22 = .ok (.iinc 3 1, 3) := by decide +kernel
theorem dX5_copyRow_25 : decode cX5_copyRow 25 = .ok (.goto (-23), 3) := by decide +kernel
theorem dX5_copyRow_28 : decode cX5_copyRow 28 = .ok (.return_, 1) := by decide +kernel
theorem dX5_copyFrom_0 : decode cX5_copyFrom 0 = .ok (.aload_n 0, 1) := by decide +kernel
theorem dX5_copyFrom_1 : decode cX5_copyFrom 1 = .ok (.aload_n 1, 1) := by decide +kernel
theorem dX5_copyFrom_2 : decode cX5_copyFrom 2 = .ok (.getfield 23, 3) := by decide +kernel
theorem dX5_copyFrom_5 : decode cX5_copyFrom 5 = .ok (.putfield 23, 3) := by decide +kernel
theorem dX5_copyFrom_8 : decode cX5_copyFrom 8 = .ok (.iconst 0, 1) := by decide +kernel
theorem dX5_copyFrom_9 : decode cX5_copyFrom 9 = .ok (.istore_n 2, 1) := by decide +kernel
theorem dX5_copyFrom_10 : decode cX5_copyFrom 10 = .ok (.iload_n 2, 1) := by decide +kernel
theorem dX5_copyFrom_11 : decode cX5_copyFrom 11 = .ok (.aload_n 0, 1) := by decide +kernel
theorem dX5_copyFrom_12 : decode cX5_copyFrom 12 = .ok (.getfield 19, 3) := by decide +kernel
theorem dX5_copyFrom_15 : decode cX5_copyFrom 15 = .ok (.arraylength, 1) := by decide +kernel
theorem dX5_copyFrom_16 : decode cX5_copyFrom 16 = .ok (.if_icmp .ge 30, 3) := by decide +kernel
theorem dX5_copyFrom_19 : decode cX5_copyFrom 19 = .ok (.iload_n 2, 1) := by decide +kernel
theorem dX5_copyFrom_20 : decode cX5_copyFrom 20 = .ok (.aload_n 1, 1) := by decide +kernel
theorem dX5_copyFrom_21 : decode cX5_copyFrom 21 = .ok (.getfield 19, 3) := by decide +kernel
theorem dX5_copyFrom_24 : decode cX5_copyFrom 24 = .ok (.arraylength, 1) := by decide +kernel
theorem dX5_copyFrom_25 : decode cX5_copyFrom 25 = .ok (.if_icmp .ge 21, 3) := by decide +kernel
theorem dX5_copyFrom_28 : decode cX5_copyFrom 28 = .ok (.aload_n 0, 1) := by decide +kernel
theorem dX5_copyFrom_29 : decode cX5_copyFrom 29 = .ok (.getfield 19, 3) := by decide +kernel
theorem dX5_copyFrom_32 : decode cX5_copyFrom 32 = .ok (.iload_n 2, 1) := by decide +kernel
theorem dX5_copyFrom_33 : decode cX5_copyFrom 33 = .ok (.aload_n 1, 1) := by decide +kernel
theorem dX5_copyFrom_34 : decode cX5_copyFrom 34 = .ok (.getfield 19, 3) := by decide +kernel
theorem dX5_copyFrom_37 : decode cX5_copyFrom 37 = .ok (.iload_n 2, 1) := by decide +kernel
theorem dX5_copyFrom_38 : decode cX5_copyFrom 38 = .ok (.iaload, 1) := by decide +kernel
theorem dX5_copyFrom_39 : decode cX5_copyFrom 39 = .ok (.iastore, 1) := by decide +kernel
theorem dX5_copyFrom_40 : decode cX5_copyFrom 40 = .ok (.iinc 2 1, 3) := by decide +kernel
theorem dX5_copyFrom_43 : decode cX5_copyFrom 43 = .ok (.goto (-33), 3) := by decide +kernel
theorem dX5_copyFrom_46 : decode cX5_copyFrom 46 = .ok (.return_, 1) := by decide +kernel
theorem dX5_sum_0 : decode cX5_sum 0 = .ok (.iconst 0, 1) := by decide +kernel
theorem dX5_sum_1 : decode cX5_sum 1 = .ok (.istore_n 2, 1) := by decide +kernel
theorem dX5_sum_2 : decode cX5_sum 2 = .ok (.iconst 0, 1) := by decide +kernel
theorem dX5_sum_3 : decode cX5_sum 3 = .ok (.istore_n 3, 1) := by decide +kernel
theorem dX5_sum_4 : decode cX5_sum 4 = .ok (.iload_n 3, 1) := by decide +kernel
theorem dX5_sum_5 : decode cX5_sum 5 = .ok (.aload_n 0, 1) := by decide +kernel
theorem dX5_sum_6 : decode cX5_sum 6 = .ok (.getfield 23, 3) := by decide +kernel
theorem dX5_sum_9 : decode cX5_sum 9 = .ok (.if_icmp .ge 18, 3) := by decide +kernel
theorem dX5_sum_12 : decode cX5_sum 12 = .ok (.iload_n 2, 1) := by decide +kernel
theorem dX5_sum_13 : decode cX5_sum 13 = .ok (.aload_n 0, 1) := by decide +kernel
theorem dX5_sum_14 : decode cX5_sum 14 = .ok (.iload_n 3, 1) := by decide +kernel
theorem dX5_sum_15 : decode cX5_sum 15 = .ok (.iload_n 1, 1) := by decide +kernel
theorem dX5_sum_16 : decode cX5_sum 16 = .ok (.invokevirtual 26, 3) := by decide +kernel
theorem dX5_sum_19 : decode cX5_sum 19 = .ok (.iadd, 1) := by decide +kernel
theorem dX5_sum_20 : decode cX5_sum 20 = .ok (.istore_n 2, 1) := by decide +kernel
theorem dX5_sum_21 : decode cX5_sum 21 = .ok (.iinc 3 1, 3) := by decide +kernel
theorem dX5_sum_24 : decode cX5_sum 24 = .ok (.goto (-20), 3) := by decide +kernel
theorem dX5_sum_27 : decode cX5_sum 27 = .ok (.iload_n 2, 1) := by decide +kernel
theorem dX5_sum_28 : decode cX5_sum 28 = .ok (.ireturn, 1) := by decide +kernel
theorem dX6_init_0 : decode cX6_init 0 = .ok (.aload_n 0, 1) := by decide +kernel
theorem dX6_init_1 : decode cX6_init 1 = .ok (.invokespecial 1, 3) := by decide +kernel
theorem dX6_init_4 : decode cX6_init 4 = .ok (.aload_n 0, 1) := by decide +kernel
theorem dX6_init_5 : decode cX6_init 5 = .ok (.new 7, 3) := by decide +kernel
theorem dX6_init_8 : decode cX6_init 8 = .ok (.dup, 1) := by decide +kernel
theorem dX6_init_9 : decode cX6_init 9 = .ok (.invokespecial 9, 3) := by decide +kernel
theorem dX6_init_12 : decode cX6_init 12 = .ok (.putfield 10, 3) := by decide +kernel
theorem dX6_init_15 : decode cX6_init 15 = .ok (.aload_n 0, 1) := by decide +kernel
theorem dX6_init_16 : decode cX6_init 16 = .ok (.new 7, 3) := by decide +kernel
theorem dX6_init_19 : decode cX6_init 19 = .ok (.dup, 1) := by decide +kernel
theorem dX6_init_20 : decode cX6_init 20 = .ok (.invokespecial 9, 3) := by decide +kernel
theorem dX6_init_23 : decode cX6_init 23 = .ok (.putfield 16, 3) := by decide +kernel
theorem dX6_init_26 : decode cX6_init 26 = .ok (.aload_n 0, 1) := by decide +kernel
theorem dX6_init_27 : decode cX6_init 27 = .ok (.new 19, 3) := by decide +kernel
theorem dX6_init_30 : decode cX6_init 30 = .ok (.dup, 1) := by decide +kernel
theorem dX6_init_31 : decode cX6_init 31 = .ok (.invokespecial 21, 3) := by decide +kernel
theorem dX6_init_34 : decode cX6_init 34 = .ok (.putfield 22, 3) := by decide +kernel
theorem dX6_init_37 : decode cX6_init 37 = .ok (.return_, 1) := by decide +kernel
theorem dX6_addStation_0 : decode cX6_addStation 0 = .ok (.iload_n 1, 1) := by decide +kernel
theorem dX6_addStation_1 : decode cX6_addStation 1 = .ok (.sipush 300, 3) := by decide +kernel
theorem dX6_addStation_4 : decode cX6_addStation 4 = .ok (.sipush 3000, 3) := by decide +kernel
theorem dX6_addStation_7 : decode cX6_addStation 7 = .ok (.invokestatic 26, 3) := by decide +kernel
theorem dX6_addStation_10 : decode cX6_addStation 10 = .ok (.ifCond .eq 23, 3) := by decide +kernel
theorem dX6_addStation_13 : decode cX6_addStation 13 = .ok (.iload_n 2, 1) := by decide +kernel
theorem dX6_addStation_14 : decode cX6_addStation 14 = .ok (.iconst 1, 1) := by decide +kernel
theorem dX6_addStation_15 : decode cX6_addStation 15 = .ok (.bipush 100, 2) := by decide +kernel
theorem dX6_addStation_17 : decode cX6_addStation 17 = .ok (.invokestatic 26, 3) := by decide +kernel
theorem dX6_addStation_20 : decode cX6_addStation 20 = .ok (.ifCond .eq 13, 3) := by decide +kernel
theorem dX6_addStation_23 : decode cX6_addStation 23 = .ok (.iload_n 3, 1) := by decide +kernel
theorem dX6_addStation_24 : decode cX6_addStation 24 = .ok (.iconst 1, 1) := by decide +kernel
theorem dX6_addStation_25 : decode cX6_addStation 25 = .ok (.bipush 50, 2) := by decide +kernel
theorem dX6_addStation_27 : decode cX6_addStation 27 = .ok (.invokestatic 26, 3) := by decide +kernel
theorem dX6_addStation_30 : decode cX6_addStation 30 = .ok (.ifCond .ne 13, 3) := by decide +kernel
theorem dX6_addStation_33 : decode cX6_addStation 33 = .ok (.new 30, 3) := by decide +kernel
theorem dX6_addStation_36 : decode cX6_addStation 36 = .ok (.dup, 1) := by decide +kernel
theorem dX6_addStation_37 : decode cX6_addStation 37 = .ok (.ldc 32, 2) := by decide +kernel
theorem dX6_addStation_39 : decode cX6_addStation 39 = .ok (.invokespecial 34, 3) := by decide +kernel
theorem dX6_addStation_42 : decode cX6_addStation 42 = .ok (.athrow, 1) := by decide +kernel
theorem dX6_addStation_43 : decode cX6_addStation 43 = .ok (.iload 4, 2) := by decide +kernel
theorem dX6_addStation_45 : decode cX6_addStation 45 = .ok (.iconst 0, 1) := by decide +kernel
theorem dX6_addStation_46 : decode cX6_addStation 46 = .ok (.bipush 23, 2) := by decide +kernel
theorem dX6_addStation_48 : decode cX6_addStation 48 = .ok (.invokestatic 26, 3) := by decide +kernel
theorem dX6_addStation_51 : decode cX6_addStation 51 = .ok (.ifCond .eq 25, 3) := by decide +kernel
theorem dX6_addStation_54 : decode cX6_addStation 54 = .ok (.iload 5, 2) := by decide +kernel
theorem dX6_addStation_56 : decode cX6_addStation 56 = .ok (.iconst 1, 1) := by decide +kernel
theorem dX6_addStation_57 : decode cX6_addStation 57 = .ok (.bipush 24, 2) := by decide +kernel
theorem dX6_addStation_59 : decode cX6_addStation 59 = .ok (.invokestatic 26, 3) := by decide +kernel
theorem dX6_addStation_62 : decode cX6_addStation 62 = .ok (.ifCond .eq 14, 3) := by decide +kernel
theorem dX6_addStation_65 : decode cX6_addStation 65 = .ok (.iload 6, 2) := by decide +kernel
theorem dX6_addStation_67 : decode cX6_addStation 67 = .ok (.iconst 0, 1) := by decide +kernel
theorem dX6_addStation_68 : decode cX6_addStation 68 = .ok (.bipush 11, 2) := by decide +kernel
theorem dX6_addStation_70 : decode cX6_addStation 70 = .ok (.invokestatic 26, 3) := by decide +kernel
theorem dX6_addStation_73 : decode cX6_addStation 73 = .ok (.ifCond .ne 13, 3) := by decide +kernel
theorem dX6_addStation_76 : decode cX6_addStation 76 = .ok (.new 30, 3) := by decide +kernel
theorem dX6_addStation_79 : decode cX6_addStation 79 = .ok (.dup, 1) := by decide +kernel
theorem dX6_addStation_80 : decode cX6_addStation 80 = .ok (.ldc 37, 2) := by decide +kernel
theorem dX6_addStation_82 : decode cX6_addStation 82 = .ok (.invokespecial 34, 3) := by decide +kernel
theorem dX6_addStation_85 : decode cX6_addStation 85 = .ok (.athrow, 1) := by decide +kernel
theorem dX6_addStation_86 : decode cX6_addStation 86 = .ok (.aload_n 0, 1) := by decide +kernel
theorem dX6_addStation_87 : decode cX6_addStation 87 = .ok (.getfield 10, 3) := by decide +kernel
theorem dX6_addStation_90 : decode cX6_addStation 90 = .ok (.getfield 39, 3) := by decide +kernel
theorem dX6_addStation_93 : decode cX6_addStation 93 = .ok (.bipush 12, 2) := by decide +kernel
theorem dX6_addStation_95 : decode cX6_addStation 95 = .ok (.if_icmp .lt 13, 3) := by decide +kernel
theorem dX6_addStation_98 : decode cX6_addStation 98 = .ok (.new 43, 3) := by decide +kernel
theorem dX6_addStation_101 : decode cX6_addStation 101 = .ok (.dup, 1) := by decide +kernel
theorem dX6_addStation_102 : decode cX6_addStation 102 = .ok (.ldc 45, 2) := by decide +kernel
theorem dX6_addStation_104 : decode cX6_addStation 104 = .ok (.invokespecial 47, 3) := by decide +kernel
theorem dX6_addStation_107 : decode cX6_addStation 107 = .ok (.athrow, 1) := by decide +kernel
theorem dX6_addStation_108 : decode cX6_addStation 108 = .ok (.aload_n 0, 1) := by decide +kernel
theorem dX6_addStation_109 : decode cX6_addStation 109 = .ok (.getfield 10, 3) := by decide +kernel
theorem dX6_addStation_112 : decode cX6_addStation 112 = .ok (.new 48, 3) := by decide +kernel
theorem dX6_addStation_115 : decode cX6_addStation 115 = .ok (.dup, 1) := by decide +kernel
theorem dX6_addStation_116 : decode cX6_addStation 116 = .ok (.iload_n 1, 1) := by decide +kernel
theorem dX6_addStation_117 : decode cX6_addStation 117 = .ok (.iload_n 2, 1) := by decide +kernel
theorem dX6_addStation_118 : decode cX6_addStation 118 = .ok (.iload_n 3, 1) := by decide +kernel
theorem dX6_addStation_119 : decode cX6_addStation 119 = .ok (.iload 4, 2) := by decide +kernel
theorem dX6_addStation_121 : decode cX6_addStation 121 = .ok (.iload 5, 2) := by decide +kernel
theorem dX6_addStation_123 : decode cX6_addStation 123 = .ok (.iload 6, 2) := by decide +kernel
theorem dX6_addStation_125 : decode cX6_addStation 125 = .ok (.invokespecial 50, 3) := by decide +kernel
theorem dX6_addStation_128 : decode cX6_addStation 128 = .ok (.invokevirtual 53, 3) := by decide +kernel
theorem dX6_addStation_131 : decode cX6_addStation 131 = .ok (.ireturn, 1) := by decide +kernel
theorem dX6_join_0 : decode cX6_join 0 = .ok (.iload_n 1, 1) := by decide +kernel
theorem dX6_join_1 : decode cX6_join 1 = .ok (.bipush 20, 2) := by decide +kernel
theorem dX6_join_3 : decode cX6_join 3 = .ok (.sipush 200, 3) := by decide +kernel
theorem dX6_join_6 : decode cX6_join 6 = .ok (.invokestatic 26, 3) := by decide +kernel
theorem dX6_join_9 : decode cX6_join 9 = .ok (.ifCond .eq 13, 3) := by decide +kernel
theorem dX6_join_12 : decode cX6_join 12 = .ok (.iload_n 2, 1) := by decide +kernel
theorem dX6_join_13 : decode cX6_join 13 = .ok (.iconst 1, 1) := by decide +kernel
theorem dX6_join_14 : decode cX6_join 14 = .ok (.bipush 60, 2) := by decide +kernel
theorem dX6_join_16 : decode cX6_join 16 = .ok (.invokestatic 26, 3) := by decide +kernel
theorem dX6_join_19 : decode cX6_join 19 = .ok (.ifCond .ne 13, 3) := by decide +kernel
theorem dX6_join_22 : decode cX6_join 22 = .ok (.new 30, 3) := by decide +kernel
theorem dX6_join_25 : decode cX6_join 25 = .ok (.dup, 1) := by decide +kernel
theorem dX6_join_26 : decode cX6_join 26 = .ok (.ldc 57, 2) := by decide +kernel
theorem dX6_join_28 : decode cX6_join 28 = .ok (.invokespecial 34, 3) := by decide +kernel
theorem dX6_join_31 : decode cX6_join 31 = .ok (.athrow, 1) := by decide +kernel
theorem dX6_join_32 : decode cX6_join 32 = .ok (.aload_n 0, 1) := by decide +kernel
theorem dX6_join_33 : decode cX6_join 33 = .ok (.getfield 10, 3) := by decide +kernel
theorem dX6_join_36 : decode cX6_join 36 = .ok (.getfield 59, 3) := by decide +kernel
theorem dX6_join_39 : decode cX6_join 39 = .ok (.bipush 8, 2) := by decide +kernel
theorem dX6_join_41 : decode cX6_join 41 = .ok (.if_icmp .lt 13, 3) := by decide +kernel
theorem dX6_join_44 : decode cX6_join 44 = .ok (.new 43, 3) := by decide +kernel
theorem dX6_join_47 : decode cX6_join 47 = .ok (.dup, 1) := by decide +kernel
theorem dX6_join_48 : decode cX6_join 48 = .ok (.ldc 62, 2) := by decide +kernel
theorem dX6_join_50 : decode cX6_join 50 = .ok (.invokespecial 47, 3) := by decide +kernel
theorem dX6_join_53 : decode cX6_join 53 = .ok (.athrow, 1) := by decide +kernel
theorem dX6_join_54 : decode cX6_join 54 = .ok (.aload_n 0, 1) := by decide +kernel
theorem dX6_join_55 : decode cX6_join 55 = .ok (.getfield 10, 3) := by decide +kernel
theorem dX6_join_58 : decode cX6_join 58 = .ok (.iload_n 1, 1) := by decide +kernel
theorem dX6_join_59 : decode cX6_join 59 = .ok (.iload_n 2, 1) := by decide +kernel
theorem dX6_join_60 : decode cX6_join 60 = .ok (.invokevirtual 64, 3) := by decide +kernel
theorem dX6_join_63 : decode cX6_join 63 = .ok (.ireturn, 1) := by decide +kernel
theorem dX6_turn_0 : decode cX6_turn 0 = .ok (.aload_n 0, 1) := by decide +kernel
theorem dX6_turn_1 : decode cX6_turn 1 = .ok (.iload_n 1, 1) := by decide +kernel
theorem dX6_turn_2 : decode cX6_turn 2 = .ok (.invokevirtual 68, 3) := by decide +kernel
theorem dX6_turn_5 : decode cX6_turn 5 = .ok (.astore_n 3, 1) := by decide +kernel
theorem dX6_turn_6 : decode cX6_turn 6 = .ok (.iload_n 2, 1) := by decide +kernel
theorem dX6_turn_7 : decode cX6_turn 7 = .ok (.iconst 0, 1) := by decide +kernel
theorem dX6_turn_8 : decode cX6_turn 8 = .ok (.bipush 100, 2) := by decide +kernel
theorem dX6_turn_10 : decode cX6_turn 10 = .ok (.invokestatic 26, 3) := by decide +kernel
theorem dX6_turn_13 : decode cX6_turn 13 = .ok (.ifCond .ne 13, 3) := by decide +kernel
theorem dX6_turn_16 : decode cX6_turn 16 = .ok (.new 30, 3) := by decide +kernel
theorem dX6_turn_19 : decode cX6_turn 19 = .ok (.dup, 1) := by decide +kernel
theorem dX6_turn_20 : decode cX6_turn 20 = .ok (.ldc 72, 2) := by decide +kernel
theorem dX6_turn_22 : decode cX6_turn 22 = .ok (.invokespecial 34, 3) := by decide +kernel
theorem dX6_turn_25 : decode cX6_turn 25 = .ok (.athrow, 1) := by decide +kernel
theorem dX6_turn_26 : decode cX6_turn 26 = .ok (.aload_n 3, 1) := by decide +kernel
theorem dX6_turn_27 : decode cX6_turn 27 = .ok (.getfield 74, 3) := by decide +kernel
theorem dX6_turn_30 : decode cX6_turn 30 = .ok (.istore 4, 2) := by decide +kernel
theorem dX6_turn_32 : decode cX6_turn 32 = .ok (.aload_n 3, 1) := by decide +kernel
theorem dX6_turn_33 : decode cX6_turn 33 = .ok (.aload_n 3, 1) := by decide +kernel
theorem dX6_turn_34 : decode cX6_turn 34 = .ok (.getfield 77, 3) := by decide +kernel
theorem dX6_turn_37 : decode cX6_turn 37 = .ok (.iload_n 2, 1) := by decide +kernel
theorem dX6_turn_38 : decode cX6_turn 38 = .ok (.invokevirtual 80, 3) := by decide +kernel
theorem dX6_turn_41 : decode cX6_turn 41 = .ok (.iload 4, 2) := by decide +kernel
theorem dX6_turn_43 : decode cX6_turn 43 = .ok (.ireturn, 1) := by decide +kernel
theorem dX6_wind_0 : decode cX6_wind 0 = .ok (.aload_n 0, 1) := by decide +kernel
theorem dX6_wind_1 : decode cX6_wind 1 = .ok (.iload_n 1, 1) := by decide +kernel
theorem dX6_wind_2 : decode cX6_wind 2 = .ok (.invokevirtual 68, 3) := by decide +kernel
theorem dX6_wind_5 : decode cX6_wind 5 = .ok (.astore_n 3, 1) := by decide +kernel
theorem dX6_wind_6 : decode cX6_wind 6 = .ok (.iload_n 2, 1) := by decide +kernel
theorem dX6_wind_7 : decode cX6_wind 7 = .ok (.bipush 20, 2) := by decide +kernel
theorem dX6_wind_9 : decode cX6_wind 9 = .ok (.sipush 200, 3) := by decide +kernel
theorem dX6_wind_12 : decode cX6_wind 12 = .ok (.invokestatic 26, 3) := by decide +kernel
theorem dX6_wind_15 : decode cX6_wind 15 = .ok (.ifCond .ne 13, 3) := by decide +kernel
theorem dX6_wind_18 : decode cX6_wind 18 = .ok (.new 30, 3) := by decide +kernel
theorem dX6_wind_21 : decode cX6_wind 21 = .ok (.dup, 1) := by decide +kernel
theorem dX6_wind_22 : decode cX6_wind 22 = .ok (.ldc 84, 2) := by decide +kernel
theorem dX6_wind_24 : decode cX6_wind 24 = .ok (.invokespecial 34, 3) := by decide +kernel
theorem dX6_wind_27 : decode cX6_wind 27 = .ok (.athrow, 1) := by decide +kernel
theorem dX6_wind_28 : decode cX6_wind 28 = .ok (.aload_n 3, 1) := by decide +kernel
theorem dX6_wind_29 : decode cX6_wind 29 = .ok (.getfield 77, 3) := by decide +kernel
theorem dX6_wind_32 : decode cX6_wind 32 = .ok (.istore 4, 2) := by decide +kernel
theorem dX6_wind_34 : decode cX6_wind 34 = .ok (.aload_n 3, 1) := by decide +kernel
theorem dX6_wind_35 : decode cX6_wind 35 = .ok (.iload_n 2, 1) := by decide +kernel
theorem dX6_wind_36 : decode cX6_wind 36 = .ok (.aload_n 3, 1) := by decide +kernel
theorem dX6_wind_37 : decode cX6_wind 37 = .ok (.getfield 74, 3) := by decide +kernel
theorem dX6_wind_40 : decode cX6_wind 40 = .ok (.invokevirtual 80, 3) := by decide +kernel
theorem dX6_wind_43 : decode cX6_wind 43 = .ok (.iload 4, 2) := by decide +kernel
theorem dX6_wind_45 : decode cX6_wind 45 = .ok (.ireturn, 1) := by decide +kernel
theorem dX6_listen_0 : decode cX6_listen 0 = .ok (.aload_n 0, 1) := by decide +kernel
theorem dX6_listen_1 : decode cX6_listen 1 = .ok (.iload_n 1, 1) := by decide +kernel
theorem dX6_listen_2 : decode cX6_listen 2 = .ok (.invokevirtual 86, 3) := by decide +kernel
theorem dX6_listen_5 : decode cX6_listen 5 = .ok (.astore_n 3, 1) := by decide +kernel
theorem dX6_listen_6 : decode cX6_listen 6 = .ok (.aload_n 3, 1) := by decide +kernel
theorem dX6_listen_7 : decode cX6_listen 7 = .ok (.getfield 90, 3) := by decide +kernel
theorem dX6_listen_10 : decode cX6_listen 10 = .ok (.istore 4, 2) := by decide +kernel
theorem dX6_listen_12 : decode cX6_listen 12 = .ok (.aload_n 3, 1) := by decide +kernel
theorem dX6_listen_13 : decode cX6_listen 13 = .ok (.iload_n 2, 1) := by decide +kernel
theorem dX6_listen_14 : decode cX6_listen 14 = .ok (.putfield 90, 3) := by decide +kernel
theorem dX6_listen_17 : decode cX6_listen 17 = .ok (.iload 4, 2) := by decide +kernel
theorem dX6_listen_19 : decode cX6_listen 19 = .ok (.ireturn, 1) := by decide +kernel
theorem dX6_renew_0 : decode cX6_renew 0 = .ok (.aload_n 0, 1) := by decide +kernel
theorem dX6_renew_1 : decode cX6_renew 1 = .ok (.iload_n 1, 1) := by decide +kernel
theorem dX6_renew_2 : decode cX6_renew 2 = .ok (.invokevirtual 68, 3) := by decide +kernel
theorem dX6_renew_5 : decode cX6_renew 5 = .ok (.astore_n 2, 1) := by decide +kernel
theorem dX6_renew_6 : decode cX6_renew 6 = .ok (.aload_n 2, 1) := by decide +kernel
theorem dX6_renew_7 : decode cX6_renew 7 = .ok (.getfield 96, 3) := by decide +kernel
theorem dX6_renew_10 : decode cX6_renew 10 = .ok (.istore_n 3, 1) := by decide +kernel
theorem dX6_renew_11 : decode cX6_renew 11 = .ok (.aload_n 2, 1) := by decide +kernel
theorem dX6_renew_12 : decode cX6_renew 12 = .ok (.bipush 9, 2) := by decide +kernel
theorem dX6_renew_14 : decode cX6_renew 14 = .ok (.putfield 96, 3) := by decide +kernel
theorem dX6_renew_17 : decode cX6_renew 17 = .ok (.iload_n 3, 1) := by decide +kernel
theorem dX6_renew_18 : decode cX6_renew 18 = .ok (.ireturn, 1) := by decide +kernel
theorem dX6_station_0 : decode cX6_station 0 = .ok (.aload_n 0, 1) := by decide +kernel
theorem dX6_station_1 : decode cX6_station 1 = .ok (.iload_n 1, 1) := by decide +kernel
theorem dX6_station_2 : decode cX6_station 2 = .ok (.invokevirtual 99, 3) := by decide +kernel
theorem dX6_station_5 : decode cX6_station 5 = .ok (.pop, 1) := by decide +kernel
theorem dX6_station_6 : decode cX6_station 6 = .ok (.iload_n 2, 1) := by decide +kernel
theorem dX6_station_7 : decode cX6_station 7 = .ok (.bipush 6, 2) := by decide +kernel
theorem dX6_station_9 : decode cX6_station 9 = .ok (.invokestatic 103, 3) := by decide +kernel
theorem dX6_station_12 : decode cX6_station 12 = .ok (.aload_n 0, 1) := by decide +kernel
theorem dX6_station_13 : decode cX6_station 13 = .ok (.getfield 10, 3) := by decide +kernel
theorem dX6_station_16 : decode cX6_station 16 = .ok (.iload_n 1, 1) := by decide +kernel
theorem dX6_station_17 : decode cX6_station 17 = .ok (.iload_n 2, 1) := by decide +kernel
theorem dX6_station_18 : decode cX6_station 18 = .ok (.invokevirtual 106, 3) := by decide +kernel
theorem dX6_station_21 : decode cX6_station 21 = .ok (.ireturn, 1) := by decide +kernel
theorem dX6_member_0 : decode cX6_member 0 = .ok (.aload_n 0, 1) := by decide +kernel
theorem dX6_member_1 : decode cX6_member 1 = .ok (.iload_n 1, 1) := by decide +kernel
theorem dX6_member_2 : decode cX6_member 2 = .ok (.invokevirtual 86, 3) := by decide +kernel
theorem dX6_member_5 : decode cX6_member 5 = .ok (.pop, 1) := by decide +kernel
theorem dX6_member_6 : decode cX6_member 6 = .ok (.iload_n 2, 1) := by decide +kernel
theorem dX6_member_7 : decode cX6_member 7 = .ok (.bipush 10, 2) := by decide +kernel
theorem dX6_member_9 : decode cX6_member 9 = .ok (.invokestatic 103, 3) := by decide +kernel
theorem dX6_member_12 : decode cX6_member 12 = .ok (.aload_n 0, 1) := by decide +kernel
theorem dX6_member_13 : decode cX6_member 13 = .ok (.getfield 10, 3) := by decide +kernel
theorem dX6_member_16 : decode cX6_member 16 = .ok (.iload_n 1, 1) := by decide +kernel
theorem dX6_member_17 : decode cX6_member 17 = .ok (.iload_n 2, 1) := by decide +kernel
theorem dX6_member_18 : decode cX6_member 18 = .ok (.invokevirtual 109, 3) := by decide +kernel
theorem dX6_member_21 : decode cX6_member 21 = .ok (.ireturn, 1) := by decide +kernel
theorem dX6_strength_0 : decode cX6_strength 0 = .ok (.aload_n 0, 1) := by decide +kernel
theorem dX6_strength_1 : decode cX6_strength 1 = .ok (.iload_n 1, 1) := by decide +kernel
theorem dX6_strength_2 : decode cX6_strength 2 = .ok (.invokevirtual 68, 3) := by decide +kernel
theorem dX6_strength_5 : decode cX6_strength 5 = .ok (.astore_n 3, 1) := by decide +kernel
theorem dX6_strength_6 : decode cX6_strength 6 = .ok (.aload_n 0, 1) := by decide +kernel
theorem dX6_strength_7 : decode cX6_strength 7 = .ok (.iload_n 2, 1) := by decide +kernel
theorem dX6_strength_8 : decode cX6_strength 8 = .ok (.invokevirtual 99, 3) := by decide +kernel
theorem dX6_strength_11 : decode cX6_strength 11 = .ok (.astore 4, 2) := by decide +kernel
theorem dX6_strength_13 : decode cX6_strength 13 = .ok (.aload 4, 2) := by decide +kernel
theorem dX6_strength_15 : decode cX6_strength 15 = .ok (.aload_n 0, 1) := by decide +kernel
theorem dX6_strength_16 : decode cX6_strength 16 = .ok (.getfield 10, 3) := by decide +kernel
theorem dX6_strength_19 : decode cX6_strength 19 = .ok (.getfield 112, 3) := by decide +kernel
theorem dX6_strength_22 : decode cX6_strength 22 = .ok (.invokevirtual 115, 3) := by decide +kernel
theorem dX6_strength_25 : decode cX6_strength 25 = .ok (.ifCond .eq 19, 3) := by decide +kernel
theorem dX6_strength_28 : decode cX6_strength 28 = .ok (.aload_n 3, 1) := by decide +kernel
theorem dX6_strength_29 : decode cX6_strength 29 = .ok (.aload 4, 2) := by decide +kernel
theorem dX6_strength_31 : decode cX6_strength 31 = .ok (.aload_n 0, 1) := by decide +kernel
theorem dX6_strength_32 : decode cX6_strength 32 = .ok (.getfield 10, 3) := by decide +kernel
theorem dX6_strength_35 : decode cX6_strength 35 = .ok (.getfield 112, 3) := by decide +kernel
theorem dX6_strength_38 : decode cX6_strength 38 = .ok (.invokevirtual 119, 3) := by decide +kernel
theorem dX6_strength_41 : decode cX6_strength 41 = .ok (.goto 4, 3) := by decide +kernel
theorem dX6_strength_44 : decode cX6_strength 44 = .ok (.iconst 0, 1) := by decide +kernel
theorem dX6_strength_45 : decode cX6_strength 45 = .ok (.ireturn, 1) := by decide +kernel
theorem dX6_hears_0 : decode cX6_hears 0 = .ok (.aload_n 0, 1) := by decide +kernel
theorem dX6_hears_1 : decode cX6_hears 1 = .ok (.getfield 10, 3) := by decide +kernel
theorem dX6_hears_4 : decode cX6_hears 4 = .ok (.aload_n 0, 1) := by decide +kernel
theorem dX6_hears_5 : decode cX6_hears 5 = .ok (.iload_n 1, 1) := by decide +kernel
theorem dX6_hears_6 : decode cX6_hears 6 = .ok (.invokevirtual 68, 3) := by decide +kernel
theorem dX6_hears_9 : decode cX6_hears 9 = .ok (.aload_n 0, 1) := by decide +kernel
theorem dX6_hears_10 : decode cX6_hears 10 = .ok (.getfield 10, 3) := by decide +kernel
theorem dX6_hears_13 : decode cX6_hears 13 = .ok (.getfield 112, 3) := by decide +kernel
theorem dX6_hears_16 : decode cX6_hears 16 = .ok (.invokevirtual 123, 3) := by decide +kernel
theorem dX6_hears_19 : decode cX6_hears 19 = .ok (.invokevirtual 127, 3) := by decide +kernel
theorem dX6_hears_22 : decode cX6_hears 22 = .ok (.ireturn, 1) := by decide +kernel
theorem dX6_log_0 : decode cX6_log 0 = .ok (.aload_n 0, 1) := by decide +kernel
theorem dX6_log_1 : decode cX6_log 1 = .ok (.iload_n 1, 1) := by decide +kernel
theorem dX6_log_2 : decode cX6_log 2 = .ok (.iload_n 2, 1) := by decide +kernel
theorem dX6_log_3 : decode cX6_log 3 = .ok (.invokevirtual 133, 3) := by decide +kernel
theorem dX6_log_6 : decode cX6_log 6 = .ok (.astore 4, 2) := by decide +kernel
theorem dX6_log_8 : decode cX6_log 8 = .ok (.iload_n 3, 1) := by decide +kernel
theorem dX6_log_9 : decode cX6_log 9 = .ok (.iconst 4, 1) := by decide +kernel
theorem dX6_log_10 : decode cX6_log 10 = .ok (.invokestatic 103, 3) := by decide +kernel
theorem dX6_log_13 : decode cX6_log 13 = .ok (.aload 4, 2) := by decide +kernel
theorem dX6_log_15 : decode cX6_log 15 = .ok (.iload_n 2, 1) := by decide +kernel
theorem dX6_log_16 : decode cX6_log 16 = .ok (.iload_n 3, 1) := by decide +kernel
theorem dX6_log_17 : decode cX6_log 17 = .ok (.invokevirtual 137, 3) := by decide +kernel
theorem dX6_log_20 : decode cX6_log 20 = .ok (.ireturn, 1) := by decide +kernel
theorem dX6_write_0 : decode cX6_write 0 = .ok (.aload_n 0, 1) := by decide +kernel
theorem dX6_write_1 : decode cX6_write 1 = .ok (.iload_n 1, 1) := by decide +kernel
theorem dX6_write_2 : decode cX6_write 2 = .ok (.iload_n 2, 1) := by decide +kernel
theorem dX6_write_3 : decode cX6_write 3 = .ok (.invokevirtual 133, 3) := by decide +kernel
theorem dX6_write_6 : decode cX6_write 6 = .ok (.astore_n 3, 1) := by decide +kernel
theorem dX6_write_7 : decode cX6_write 7 = .ok (.aload_n 3, 1) := by decide +kernel
theorem dX6_write_8 : decode cX6_write 8 = .ok (.iload_n 2, 1) := by decide +kernel
theorem dX6_write_9 : decode cX6_write 9 = .ok (.iconst 3, 1) := by decide +kernel
theorem dX6_write_10 : decode cX6_write 10 = .ok (.invokevirtual 137, 3) := by decide +kernel
theorem dX6_write_13 : decode cX6_write 13 = .ok (.iconst 1, 1) := by decide +kernel
theorem dX6_write_14 : decode cX6_write 14 = .ok (.if_icmp .ne 13, 3) := by decide +kernel
theorem dX6_write_17 : decode cX6_write 17 = .ok (.new 43, 3) := by decide +kernel
theorem dX6_write_20 : decode cX6_write 20 = .ok (.dup, 1) := by decide +kernel
theorem dX6_write_21 : decode cX6_write 21 = .ok (.ldc 142, 2) := by decide +kernel
theorem dX6_write_23 : decode cX6_write 23 = .ok (.invokespecial 47, 3) := by decide +kernel
theorem dX6_write_26 : decode cX6_write 26 = .ok (.athrow, 1) := by decide +kernel
theorem dX6_write_27 : decode cX6_write 27 = .ok (.aload_n 0, 1) := by decide +kernel
theorem dX6_write_28 : decode cX6_write 28 = .ok (.getfield 10, 3) := by decide +kernel
theorem dX6_write_31 : decode cX6_write 31 = .ok (.iload_n 1, 1) := by decide +kernel
theorem dX6_write_32 : decode cX6_write 32 = .ok (.iload_n 2, 1) := by decide +kernel
theorem dX6_write_33 : decode cX6_write 33 = .ok (.invokevirtual 144, 3) := by decide +kernel
theorem dX6_write_36 : decode cX6_write 36 = .ok (.ifCond .eq 13, 3) := by decide +kernel
theorem dX6_write_39 : decode cX6_write 39 = .ok (.new 43, 3) := by decide +kernel
theorem dX6_write_42 : decode cX6_write 42 = .ok (.dup, 1) := by decide +kernel
theorem dX6_write_43 : decode cX6_write 43 = .ok (.ldc 148, 2) := by decide +kernel
theorem dX6_write_45 : decode cX6_write 45 = .ok (.invokespecial 47, 3) := by decide +kernel
theorem dX6_write_48 : decode cX6_write 48 = .ok (.athrow, 1) := by decide +kernel
theorem dX6_write_49 : decode cX6_write 49 = .ok (.aload_n 0, 1) := by decide +kernel
theorem dX6_write_50 : decode cX6_write 50 = .ok (.getfield 10, 3) := by decide +kernel
theorem dX6_write_53 : decode cX6_write 53 = .ok (.getfield 150, 3) := by decide +kernel
theorem dX6_write_56 : decode cX6_write 56 = .ok (.invokevirtual 154, 3) := by decide +kernel
theorem dX6_write_59 : decode cX6_write 59 = .ok (.ifCond .eq 13, 3) := by decide +kernel
theorem dX6_write_62 : decode cX6_write 62 = .ok (.new 43, 3) := by decide +kernel
theorem dX6_write_65 : decode cX6_write 65 = .ok (.dup, 1) := by decide +kernel
theorem dX6_write_66 : decode cX6_write 66 = .ok (.ldc 158, 2) := by decide +kernel
theorem dX6_write_68 : decode cX6_write 68 = .ok (.invokespecial 47, 3) := by decide +kernel
theorem dX6_write_71 : decode cX6_write 71 = .ok (.athrow, 1) := by decide +kernel
theorem dX6_write_72 : decode cX6_write 72 = .ok (.aload_n 0, 1) := by decide +kernel
theorem dX6_write_73 : decode cX6_write 73 = .ok (.getfield 10, 3) := by decide +kernel
theorem dX6_write_76 : decode cX6_write 76 = .ok (.iload_n 1, 1) := by decide +kernel
theorem dX6_write_77 : decode cX6_write 77 = .ok (.iload_n 2, 1) := by decide +kernel
theorem dX6_write_78 : decode cX6_write 78 = .ok (.invokevirtual 160, 3) := by decide +kernel
theorem dX6_write_81 : decode cX6_write 81 = .ok (.ireturn, 1) := by decide +kernel
theorem dX6_pass_0 : decode cX6_pass 0 = .ok (.iload_n 1, 1) := by decide +kernel
theorem dX6_pass_1 : decode cX6_pass 1 = .ok (.iconst 1, 1) := by decide +kernel
theorem dX6_pass_2 : decode cX6_pass 2 = .ok (.sipush 240, 3) := by decide +kernel
theorem dX6_pass_5 : decode cX6_pass 5 = .ok (.invokestatic 26, 3) := by decide +kernel
theorem dX6_pass_8 : decode cX6_pass 8 = .ok (.ifCond .ne 13, 3) := by decide +kernel
theorem dX6_pass_11 : decode cX6_pass 11 = .ok (.new 30, 3) := by decide +kernel
theorem dX6_pass_14 : decode cX6_pass 14 = .ok (.dup, 1) := by decide +kernel
theorem dX6_pass_15 : decode cX6_pass 15 = .ok (.ldc 163, 2) := by decide +kernel
theorem dX6_pass_17 : decode cX6_pass 17 = .ok (.invokespecial 34, 3) := by decide +kernel
theorem dX6_pass_20 : decode cX6_pass 20 = .ok (.athrow, 1) := by decide +kernel
theorem dX6_pass_21 : decode cX6_pass 21 = .ok (.aload_n 0, 1) := by decide +kernel
theorem dX6_pass_22 : decode cX6_pass 22 = .ok (.getfield 10, 3) := by decide +kernel
theorem dX6_pass_25 : decode cX6_pass 25 = .ok (.iload_n 1, 1) := by decide +kernel
theorem dX6_pass_26 : decode cX6_pass 26 = .ok (.invokevirtual 165, 3) := by decide +kernel
theorem dX6_pass_29 : decode cX6_pass 29 = .ok (.ireturn, 1) := by decide +kernel
theorem dX6_count_0 : decode cX6_count 0 = .ok (.iload_n 1, 1) := by decide +kernel
theorem dX6_count_1 : decode cX6_count 1 = .ok (.bipush 8, 2) := by decide +kernel
theorem dX6_count_3 : decode cX6_count 3 = .ok (.invokestatic 103, 3) := by decide +kernel
theorem dX6_count_6 : decode cX6_count 6 = .ok (.aload_n 0, 1) := by decide +kernel
theorem dX6_count_7 : decode cX6_count 7 = .ok (.getfield 10, 3) := by decide +kernel
theorem dX6_count_10 : decode cX6_count 10 = .ok (.iload_n 1, 1) := by decide +kernel
theorem dX6_count_11 : decode cX6_count 11 = .ok (.invokevirtual 169, 3) := by decide +kernel
theorem dX6_count_14 : decode cX6_count 14 = .ok (.ireturn, 1) := by decide +kernel
theorem dX6_rank_0 : decode cX6_rank 0 = .ok (.iload_n 1, 1) := by decide +kernel
theorem dX6_rank_1 : decode cX6_rank 1 = .ok (.aload_n 0, 1) := by decide +kernel
theorem dX6_rank_2 : decode cX6_rank 2 = .ok (.getfield 10, 3) := by decide +kernel
theorem dX6_rank_5 : decode cX6_rank 5 = .ok (.getfield 59, 3) := by decide +kernel
theorem dX6_rank_8 : decode cX6_rank 8 = .ok (.invokestatic 103, 3) := by decide +kernel
theorem dX6_rank_11 : decode cX6_rank 11 = .ok (.aload_n 0, 1) := by decide +kernel
theorem dX6_rank_12 : decode cX6_rank 12 = .ok (.getfield 10, 3) := by decide +kernel
theorem dX6_rank_15 : decode cX6_rank 15 = .ok (.iload_n 1, 1) := by decide +kernel
theorem dX6_rank_16 : decode cX6_rank 16 = .ok (.invokevirtual 172, 3) := by decide +kernel
theorem dX6_rank_19 : decode cX6_rank 19 = .ok (.ireturn, 1) := by decide +kernel
theorem dX6_dial_0 : decode cX6_dial 0 = .ok (.aload_n 0, 1) := by decide +kernel
theorem dX6_dial_1 : decode cX6_dial 1 = .ok (.iload_n 1, 1) := by decide +kernel
theorem dX6_dial_2 : decode cX6_dial 2 = .ok (.invokevirtual 68, 3) := by decide +kernel
theorem dX6_dial_5 : decode cX6_dial 5 = .ok (.astore_n 3, 1) := by decide +kernel
theorem dX6_dial_6 : decode cX6_dial 6 = .ok (.aload_n 0, 1) := by decide +kernel
theorem dX6_dial_7 : decode cX6_dial 7 = .ok (.iload_n 2, 1) := by decide +kernel
theorem dX6_dial_8 : decode cX6_dial 8 = .ok (.invokevirtual 99, 3) := by decide +kernel
theorem dX6_dial_11 : decode cX6_dial 11 = .ok (.pop, 1) := by decide +kernel
theorem dX6_dial_12 : decode cX6_dial 12 = .ok (.aload_n 0, 1) := by decide +kernel
theorem dX6_dial_13 : decode cX6_dial 13 = .ok (.getfield 22, 3) := by decide +kernel
theorem dX6_dial_16 : decode cX6_dial 16 = .ok (.aload_n 3, 1) := by decide +kernel
theorem dX6_dial_17 : decode cX6_dial 17 = .ok (.invokevirtual 175, 3) := by decide +kernel
theorem dX6_dial_20 : decode cX6_dial 20 = .ok (.aload_n 0, 1) := by decide +kernel
theorem dX6_dial_21 : decode cX6_dial 21 = .ok (.getfield 10, 3) := by decide +kernel
theorem dX6_dial_24 : decode cX6_dial 24 = .ok (.aload_n 0, 1) := by decide +kernel
theorem dX6_dial_25 : decode cX6_dial 25 = .ok (.getfield 22, 3) := by decide +kernel
theorem dX6_dial_28 : decode cX6_dial 28 = .ok (.iload_n 2, 1) := by decide +kernel
theorem dX6_dial_29 : decode cX6_dial 29 = .ok (.invokevirtual 179, 3) := by decide +kernel
theorem dX6_dial_32 : decode cX6_dial 32 = .ok (.ireturn, 1) := by decide +kernel
theorem dX6_next_0 : decode cX6_next 0 = .ok (.aload_n 0, 1) := by decide +kernel
theorem dX6_next_1 : decode cX6_next 1 = .ok (.iload_n 1, 1) := by decide +kernel
theorem dX6_next_2 : decode cX6_next 2 = .ok (.invokevirtual 68, 3) := by decide +kernel
theorem dX6_next_5 : decode cX6_next 5 = .ok (.astore_n 3, 1) := by decide +kernel
theorem dX6_next_6 : decode cX6_next 6 = .ok (.aload_n 0, 1) := by decide +kernel
theorem dX6_next_7 : decode cX6_next 7 = .ok (.iload_n 2, 1) := by decide +kernel
theorem dX6_next_8 : decode cX6_next 8 = .ok (.invokevirtual 99, 3) := by decide +kernel
theorem dX6_next_11 : decode cX6_next 11 = .ok (.pop, 1) := by decide +kernel
theorem dX6_next_12 : decode cX6_next 12 = .ok (.iconst 0, 1) := by decide +kernel
theorem dX6_next_13 : decode cX6_next 13 = .ok (.istore 4, 2) := by decide +kernel
theorem dX6_next_15 : decode cX6_next 15 = .ok (.iload 4, 2) := by decide +kernel
theorem dX6_next_17 : decode cX6_next 17 = .ok (.bipush 96, 2) := by decide +kernel
theorem dX6_next_19 : decode cX6_next 19 = .ok (.if_icmp .gt 37, 3) := by decide +kernel
theorem dX6_next_22 : decode cX6_next 22 = .ok (.aload_n 0, 1) := by decide +kernel
theorem dX6_next_23 : decode cX6_next 23 = .ok (.getfield 10, 3) := by decide +kernel
theorem dX6_next_26 : decode cX6_next 26 = .ok (.aload_n 3, 1) := by decide +kernel
theorem dX6_next_27 : decode cX6_next 27 = .ok (.aload_n 0, 1) := by decide +kernel
theorem dX6_next_28 : decode cX6_next 28 = .ok (.getfield 10, 3) := by decide +kernel
theorem dX6_next_31 : decode cX6_next 31 = .ok (.getfield 112, 3) := by decide +kernel
theorem dX6_next_34 : decode cX6_next 34 = .ok (.iload 4, 2) := by decide +kernel
theorem dX6_next_36 : decode cX6_next 36 = .ok (.iadd, 1) := by decide +kernel
theorem dX6_next_37 : decode cX6_next 37 = .ok (.invokevirtual 123, 3) := by decide +kernel
theorem dX6_next_40 : decode cX6_next 40 = .ok (.invokevirtual 127, 3) := by decide +kernel
theorem dX6_next_43 : decode cX6_next 43 = .ok (.iload_n 2, 1) := by decide +kernel
theorem dX6_next_44 : decode cX6_next 44 = .ok (.if_icmp .ne 6, 3) := by decide +kernel
theorem dX6_next_47 : decode cX6_next 47 = .ok (.iload 4, 2) := by decide +kernel
theorem dX6_next_49 : decode cX6_next 49 = .ok (.ireturn, 1) := by decide +kernel
theorem dX6_next_50 : decode cX6_next 50 = .ok (.iinc 4 1, 3) := by decide +kernel
theorem dX6_next_53 : decode cX6_next 53 = .ok (.goto (-38), 3) := by decide +kernel
theorem dX6_next_56 : decode cX6_next 56 = .ok (.iconst (-1), 1) := by decide +kernel
theorem dX6_next_57 : decode cX6_next 57 = .ok (.ireturn, 1) := by decide +kernel
theorem dX6_apart_0 : decode cX6_apart 0 = .ok (.aload_n 0, 1) := by decide +kernel
theorem dX6_apart_1 : decode cX6_apart 1 = .ok (.iload_n 1, 1) := by decide +kernel
theorem dX6_apart_2 : decode cX6_apart 2 = .ok (.invokevirtual 68, 3) := by decide +kernel
theorem dX6_apart_5 : decode cX6_apart 5 = .ok (.astore 4, 2) := by decide +kernel
theorem dX6_apart_7 : decode cX6_apart 7 = .ok (.aload_n 0, 1) := by decide +kernel
theorem dX6_apart_8 : decode cX6_apart 8 = .ok (.iload_n 2, 1) := by decide +kernel
theorem dX6_apart_9 : decode cX6_apart 9 = .ok (.invokevirtual 99, 3) := by decide +kernel
theorem dX6_apart_12 : decode cX6_apart 12 = .ok (.astore 5, 2) := by decide +kernel
theorem dX6_apart_14 : decode cX6_apart 14 = .ok (.aload_n 0, 1) := by decide +kernel
theorem dX6_apart_15 : decode cX6_apart 15 = .ok (.iload_n 3, 1) := by decide +kernel
theorem dX6_apart_16 : decode cX6_apart 16 = .ok (.invokevirtual 99, 3) := by decide +kernel
theorem dX6_apart_19 : decode cX6_apart 19 = .ok (.astore 6, 2) := by decide +kernel
theorem dX6_apart_21 : decode cX6_apart 21 = .ok (.iload_n 2, 1) := by decide +kernel
theorem dX6_apart_22 : decode cX6_apart 22 = .ok (.iload_n 3, 1) := by decide +kernel
theorem dX6_apart_23 : decode cX6_apart 23 = .ok (.if_icmp .ne 13, 3) := by decide +kernel
theorem dX6_apart_26 : decode cX6_apart 26 = .ok (.new 30, 3) := by decide +kernel
theorem dX6_apart_29 : decode cX6_apart 29 = .ok (.dup, 1) := by decide +kernel
theorem dX6_apart_30 : decode cX6_apart 30 = .ok (.ldc 183, 2) := by decide +kernel
theorem dX6_apart_32 : decode cX6_apart 32 = .ok (.invokespecial 34, 3) := by decide +kernel
theorem dX6_apart_35 : decode cX6_apart 35 = .ok (.athrow, 1) := by decide +kernel
theorem dX6_apart_36 : decode cX6_apart 36 = .ok (.aload_n 0, 1) := by decide +kernel
theorem dX6_apart_37 : decode cX6_apart 37 = .ok (.getfield 22, 3) := by decide +kernel
theorem dX6_apart_40 : decode cX6_apart 40 = .ok (.aload 4, 2) := by decide +kernel
theorem dX6_apart_42 : decode cX6_apart 42 = .ok (.invokevirtual 175, 3) := by decide +kernel
theorem dX6_apart_45 : decode cX6_apart 45 = .ok (.bipush 20, 2) := by decide +kernel
theorem dX6_apart_47 : decode cX6_apart 47 = .ok (.istore 7, 2) := by decide +kernel
theorem dX6_apart_49 : decode cX6_apart 49 = .ok (.iload 7, 2) := by decide +kernel
theorem dX6_apart_51 : decode cX6_apart 51 = .ok (.sipush 200, 3) := by decide +kernel
theorem dX6_apart_54 : decode cX6_apart 54 = .ok (.if_icmp .gt 32, 3) := by decide +kernel
theorem dX6_apart_57 : decode cX6_apart 57 = .ok (.aload_n 0, 1) := by decide +kernel
theorem dX6_apart_58 : decode cX6_apart 58 = .ok (.getfield 10, 3) := by decide +kernel
theorem dX6_apart_61 : decode cX6_apart 61 = .ok (.aload_n 0, 1) := by decide +kernel
theorem dX6_apart_62 : decode cX6_apart 62 = .ok (.getfield 22, 3) := by decide +kernel
theorem dX6_apart_65 : decode cX6_apart 65 = .ok (.iload 7, 2) := by decide +kernel
theorem dX6_apart_67 : decode cX6_apart 67 = .ok (.aload 5, 2) := by decide +kernel
theorem dX6_apart_69 : decode cX6_apart 69 = .ok (.aload 6, 2) := by decide +kernel
theorem dX6_apart_71 : decode cX6_apart 71 = .ok (.invokevirtual 185, 3) := by decide +kernel
theorem dX6_apart_74 : decode cX6_apart 74 = .ok (.ifCond .eq 6, 3) := by decide +kernel
theorem dX6_apart_77 : decode cX6_apart 77 = .ok (.iload 7, 2) := by decide +kernel
theorem dX6_apart_79 : decode cX6_apart 79 = .ok (.ireturn, 1) := by decide +kernel
theorem dX6_apart_80 : decode cX6_apart 80 = .ok (.iinc 7 1, 3) := by decide +kernel
theorem dX6_apart_83 : decode cX6_apart 83 = .ok (.goto (-34), 3) := by decide +kernel
theorem dX6_apart_86 : decode cX6_apart 86 = .ok (.iconst (-1), 1) := by decide +kernel
theorem dX6_apart_87 : decode cX6_apart 87 = .ok (.ireturn, 1) := by decide +kernel
theorem dX6_foresee_0 : decode cX6_foresee 0 = .ok (.iload_n 1, 1) := by decide +kernel
theorem dX6_foresee_1 : decode cX6_foresee 1 = .ok (.iconst 1, 1) := by decide +kernel
theorem dX6_foresee_2 : decode cX6_foresee 2 = .ok (.sipush 240, 3) := by decide +kernel
theorem dX6_foresee_5 : decode cX6_foresee 5 = .ok (.invokestatic 26, 3) := by decide +kernel
theorem dX6_foresee_8 : decode cX6_foresee 8 = .ok (.ifCond .ne 13, 3) := by decide +kernel
theorem dX6_foresee_11 : decode cX6_foresee 11 = .ok (.new 30, 3) := by decide +kernel
theorem dX6_foresee_14 : decode cX6_foresee 14 = .ok (.dup, 1) := by decide +kernel
theorem dX6_foresee_15 : decode cX6_foresee 15 = .ok (.ldc 163, 2) := by decide +kernel
theorem dX6_foresee_17 : decode cX6_foresee 17 = .ok (.invokespecial 34, 3) := by decide +kernel
theorem dX6_foresee_20 : decode cX6_foresee 20 = .ok (.athrow, 1) := by decide +kernel
theorem dX6_foresee_21 : decode cX6_foresee 21 = .ok (.iload_n 2, 1) := by decide +kernel
theorem dX6_foresee_22 : decode cX6_foresee 22 = .ok (.iconst 2, 1) := by decide +kernel
theorem dX6_foresee_23 : decode cX6_foresee 23 = .ok (.invokestatic 103, 3) := by decide +kernel
theorem dX6_foresee_26 : decode cX6_foresee 26 = .ok (.aload_n 0, 1) := by decide +kernel
theorem dX6_foresee_27 : decode cX6_foresee 27 = .ok (.getfield 16, 3) := by decide +kernel
theorem dX6_foresee_30 : decode cX6_foresee 30 = .ok (.aload_n 0, 1) := by decide +kernel
theorem dX6_foresee_31 : decode cX6_foresee 31 = .ok (.getfield 10, 3) := by decide +kernel
theorem dX6_foresee_34 : decode cX6_foresee 34 = .ok (.invokevirtual 189, 3) := by decide +kernel
theorem dX6_foresee_37 : decode cX6_foresee 37 = .ok (.aload_n 0, 1) := by decide +kernel
theorem dX6_foresee_38 : decode cX6_foresee 38 = .ok (.getfield 16, 3) := by decide +kernel
theorem dX6_foresee_41 : decode cX6_foresee 41 = .ok (.iload_n 1, 1) := by decide +kernel
theorem dX6_foresee_42 : decode cX6_foresee 42 = .ok (.invokevirtual 165, 3) := by decide +kernel
theorem dX6_foresee_45 : decode cX6_foresee 45 = .ok (.istore_n 3, 1) := by decide +kernel
theorem dX6_foresee_46 : decode cX6_foresee 46 = .ok (.iload_n 2, 1) := by decide +kernel
theorem dX6_foresee_47 : decode cX6_foresee 47 = .ok (.ifCond .ne 7, 3) := by decide +kernel
theorem dX6_foresee_50 : decode cX6_foresee 50 = .ok (.iload_n 3, 1) := by decide +kernel
theorem dX6_foresee_51 : decode cX6_foresee 51 = .ok (.goto 18, 3) := by decide +kernel
theorem dX6_foresee_54 : decode cX6_foresee 54 = .ok (.aload_n 0, 1) := by decide +kernel
theorem dX6_foresee_55 : decode cX6_foresee 55 = .ok (.getfield 16, 3) := by decide +kernel
theorem dX6_foresee_58 : decode cX6_foresee 58 = .ok (.invokevirtual 192, 3) := by decide +kernel
theorem dX6_foresee_61 : decode cX6_foresee 61 = .ok (.aload_n 0, 1) := by decide +kernel
theorem dX6_foresee_62 : decode cX6_foresee 62 = .ok (.getfield 10, 3) := by decide +kernel
theorem dX6_foresee_65 : decode cX6_foresee 65 = .ok (.invokevirtual 192, 3) := by decide +kernel
theorem dX6_foresee_68 : decode cX6_foresee 68 = .ok (.isub, 1) := by decide +kernel
theorem dX6_foresee_69 : decode cX6_foresee 69 = .ok (.ireturn, 1) := by decide +kernel
theorem dX6_mean_0 : decode cX6_mean 0 = .ok (.aload_n 0, 1) := by decide +kernel
theorem dX6_mean_1 : decode cX6_mean 1 = .ok (.getfield 10, 3) := by decide +kernel
theorem dX6_mean_4 : decode cX6_mean 4 = .ok (.invokevirtual 195, 3) := by decide +kernel
theorem dX6_mean_7 : decode cX6_mean 7 = .ok (.istore_n 1, 1) := by decide +kernel
theorem dX6_mean_8 : decode cX6_mean 8 = .ok (.iload_n 1, 1) := by decide +kernel
theorem dX6_mean_9 : decode cX6_mean 9 = .ok (.ifCond .le 17, 3) := by decide +kernel
theorem dX6_mean_12 : decode cX6_mean 12 = .ok (.aload_n 0, 1) := by decide +kernel
theorem dX6_mean_13 : decode cX6_mean 13 = .ok (.getfield 10, 3) := by decide +kernel
theorem dX6_mean_16 : decode cX6_mean 16 = .ok (.invokevirtual 198, 3) := by decide +kernel
theorem dX6_mean_19 : decode cX6_mean 19 = .ok (.i2d, 1) := by decide +kernel
theorem dX6_mean_20 : decode cX6_mean 20 = .ok (.iload_n 1, 1) := by decide +kernel
theorem dX6_mean_21 : decode cX6_mean 21 = .ok (.i2d, 1) := by decide +kernel
theorem dX6_mean_22 : decode cX6_mean 22 = .ok (.ddiv, 1) := by decide +kernel
theorem dX6_mean_23 : decode cX6_mean 23 = .ok (.goto 4, 3) := by decide +kernel
theorem dX6_mean_26 : decode cX6_mean 26 = .ok (.dconst 0, 1) := by decide +kernel
theorem dX6_mean_27 : decode cX6_mean 27 = .ok (.dreturn, 1) := by decide +kernel
theorem dX6_digest_0 : decode cX6_digest 0 = .ok (.aload_n 0, 1) := by decide +kernel
theorem dX6_digest_1 : decode cX6_digest 1 = .ok (.getfield 10, 3) := by decide +kernel
theorem dX6_digest_4 : decode cX6_digest 4 = .ok (.invokevirtual 201, 3) := by decide +kernel
theorem dX6_digest_7 : decode cX6_digest 7 = .ok (.lreturn, 1) := by decide +kernel
theorem dX6_isWithin_0 : decode cX6_isWithin 0 = .ok (.iload_n 0, 1) := by decide +kernel
theorem dX6_isWithin_1 : decode cX6_isWithin 1 = .ok (.iload_n 1, 1) := by decide +kernel
theorem dX6_isWithin_2 : decode cX6_isWithin 2 = .ok (.if_icmp .lt 12, 3) := by decide +kernel
theorem dX6_isWithin_5 : decode cX6_isWithin 5 = .ok (.iload_n 0, 1) := by decide +kernel
theorem dX6_isWithin_6 : decode cX6_isWithin 6 = .ok (.iload_n 2, 1) := by decide +kernel
theorem dX6_isWithin_7 : decode cX6_isWithin 7 = .ok (.if_icmp .gt 7, 3) := by decide +kernel
theorem dX6_isWithin_10 : decode cX6_isWithin 10 = .ok (.iconst 1, 1) := by decide +kernel
theorem dX6_isWithin_11 : decode cX6_isWithin 11 = .ok (.goto 4, 3) := by decide +kernel
theorem dX6_isWithin_14 : decode cX6_isWithin 14 = .ok (.iconst 0, 1) := by decide +kernel
theorem dX6_isWithin_15 : decode cX6_isWithin 15 = .ok (.ireturn, 1) := by decide +kernel
theorem dX6_refuseUnlessWithin_0 : decode cX6_refuseUnlessWithin 0 = .ok (.iload_n 0, 1) := by decide +kernel
theorem dX6_refuseUnlessWithin_1 : decode cX6_refuseUnlessWithin 1 = .ok (.ifCond .lt 8, 3) := by decide +kernel
theorem dX6_refuseUnlessWithin_4 : decode cX6_refuseUnlessWithin 4 = .ok (.iload_n 0, 1) := by decide +kernel
theorem dX6_refuseUnlessWithin_5 : decode cX6_refuseUnlessWithin 5 = .ok (.iload_n 1, 1) := by decide +kernel
theorem dX6_refuseUnlessWithin_6 : decode cX6_refuseUnlessWithin 6 = .ok (.if_icmp .lt 13, 3) := by decide +kernel
theorem dX6_refuseUnlessWithin_9 : decode cX6_refuseUnlessWithin 9 = .ok (.new 205, 3) := by decide +kernel
theorem dX6_refuseUnlessWithin_12 : decode cX6_refuseUnlessWithin 12 = .ok (.dup, 1) := by decide +kernel
theorem dX6_refuseUnlessWithin_13 : decode cX6_refuseUnlessWithin 13 = .ok (.ldc 207, 2) := by decide +kernel
theorem dX6_refuseUnlessWithin_15 : decode cX6_refuseUnlessWithin 15 = .ok (.invokespecial 209, 3) := by decide +kernel
theorem dX6_refuseUnlessWithin_18 : decode cX6_refuseUnlessWithin 18 = .ok (.athrow, 1) := by decide +kernel
theorem dX6_refuseUnlessWithin_19 : decode cX6_refuseUnlessWithin 19 = .ok (.return_, 1) := by decide +kernel
theorem dX6_stationOf_0 : decode cX6_stationOf 0 = .ok (.aload_n 0, 1) := by decide +kernel
theorem dX6_stationOf_1 : decode cX6_stationOf 1 = .ok (.getfield 10, 3) := by decide +kernel
theorem dX6_stationOf_4 : decode cX6_stationOf 4 = .ok (.iload_n 1, 1) := by decide +kernel
theorem dX6_stationOf_5 : decode cX6_stationOf 5 = .ok (.invokevirtual 210, 3) := by decide +kernel
theorem dX6_stationOf_8 : decode cX6_stationOf 8 = .ok (.astore_n 2, 1) := by decide +kernel
theorem dX6_stationOf_9 : decode cX6_stationOf 9 = .ok (.aload_n 2, 1) := by decide +kernel
theorem dX6_stationOf_10 : decode cX6_stationOf 10 = .ok (.ifnonnull 13, 3) := by decide +kernel
theorem dX6_stationOf_13 : decode cX6_stationOf 13 = .ok (.new 205, 3) := by decide +kernel
theorem dX6_stationOf_16 : decode cX6_stationOf 16 = .ok (.dup, 1) := by decide +kernel
theorem dX6_stationOf_17 : decode cX6_stationOf 17 = .ok (.ldc 213, 2) := by decide +kernel
theorem dX6_stationOf_19 : decode cX6_stationOf 19 = .ok (.invokespecial 209, 3) := by decide +kernel
theorem dX6_stationOf_22 : decode cX6_stationOf 22 = .ok (.athrow, 1) := by decide +kernel
theorem dX6_stationOf_23 : decode cX6_stationOf 23 = .ok (.aload_n 2, 1) := by decide +kernel
theorem dX6_stationOf_24 : decode cX6_stationOf 24 = .ok (.areturn, 1) := by decide +kernel
theorem dX6_memberOf_0 : decode cX6_memberOf 0 = .ok (.aload_n 0, 1) := by decide +kernel
theorem dX6_memberOf_1 : decode cX6_memberOf 1 = .ok (.getfield 10, 3) := by decide +kernel
theorem dX6_memberOf_4 : decode cX6_memberOf 4 = .ok (.iload_n 1, 1) := by decide +kernel
theorem dX6_memberOf_5 : decode cX6_memberOf 5 = .ok (.invokevirtual 215, 3) := by decide +kernel
theorem dX6_memberOf_8 : decode cX6_memberOf 8 = .ok (.astore_n 2, 1) := by decide +kernel
theorem dX6_memberOf_9 : decode cX6_memberOf 9 = .ok (.aload_n 2, 1) := by decide +kernel
theorem dX6_memberOf_10 : decode cX6_memberOf 10 = .ok (.ifnonnull 13, 3) := by decide +kernel
theorem dX6_memberOf_13 : decode cX6_memberOf 13 = .ok (.new 205, 3) := by decide +kernel
theorem dX6_memberOf_16 : decode cX6_memberOf 16 = .ok (.dup, 1) := by decide +kernel
theorem dX6_memberOf_17 : decode cX6_memberOf 17 = .ok (.ldc 218, 2) := by decide +kernel
theorem dX6_memberOf_19 : decode cX6_memberOf 19 = .ok (.invokespecial 209, 3) := by decide +kernel
theorem dX6_memberOf_22 : decode cX6_memberOf 22 = .ok (.athrow, 1) := by decide +kernel
theorem dX6_memberOf_23 : decode cX6_memberOf 23 = .ok (.aload_n 2, 1) := by decide +kernel
theorem dX6_memberOf_24 : decode cX6_memberOf 24 = .ok (.areturn, 1) := by decide +kernel
theorem dX6_setOf_0 : decode cX6_setOf 0 = .ok (.aload_n 0, 1) := by decide +kernel
theorem dX6_setOf_1 : decode cX6_setOf 1 = .ok (.iload_n 1, 1) := by decide +kernel
theorem dX6_setOf_2 : decode cX6_setOf 2 = .ok (.invokevirtual 86, 3) := by decide +kernel
theorem dX6_setOf_5 : decode cX6_setOf 5 = .ok (.getfield 220, 3) := by decide +kernel
theorem dX6_setOf_8 : decode cX6_setOf 8 = .ok (.areturn, 1) := by decide +kernel
theorem dX6_logOf_0 : decode cX6_logOf 0 = .ok (.aload_n 0, 1) := by decide +kernel
theorem dX6_logOf_1 : decode cX6_logOf 1 = .ok (.iload_n 1, 1) := by decide +kernel
theorem dX6_logOf_2 : decode cX6_logOf 2 = .ok (.invokevirtual 86, 3) := by decide +kernel
theorem dX6_logOf_5 : decode cX6_logOf 5 = .ok (.getfield 223, 3) := by decide +kernel
theorem dX6_logOf_8 : decode cX6_logOf 8 = .ok (.astore_n 3, 1) := by decide +kernel
theorem dX6_logOf_9 : decode cX6_logOf 9 = .ok (.iload_n 2, 1) := by decide +kernel
theorem dX6_logOf_10 : decode cX6_logOf 10 = .ok (.aload_n 3, 1) := by decide +kernel
theorem dX6_logOf_11 : decode cX6_logOf 11 = .ok (.getfield 226, 3) := by decide +kernel
theorem dX6_logOf_14 : decode cX6_logOf 14 = .ok (.invokestatic 103, 3) := by decide +kernel
theorem dX6_logOf_17 : decode cX6_logOf 17 = .ok (.aload_n 3, 1) := by decide +kernel
theorem dX6_logOf_18 : decode cX6_logOf 18 = .ok (.areturn, 1) := by decide +kernel
theorem dX6_quotient_0 : decode cX6_quotient 0 = .ok (.iload_n 1, 1) := by decide +kernel
theorem dX6_quotient_1 : decode cX6_quotient 1 = .ok (.ifCond .ne 7, 3) := by decide +kernel
theorem dX6_quotient_4 : decode cX6_quotient 4 = .ok (.iconst 0, 1) := by decide +kernel
theorem dX6_quotient_5 : decode cX6_quotient 5 = .ok (.goto 6, 3) := by decide +kernel
theorem dX6_quotient_8 : decode cX6_quotient 8 = .ok (.iload_n 0, 1) := by decide +kernel
theorem dX6_quotient_9 : decode cX6_quotient 9 = .ok (.iload_n 1, 1) := by decide +kernel
theorem dX6_quotient_10 : decode cX6_quotient 10 = .ok (.idiv, 1) := by decide +kernel
theorem dX6_quotient_11 : decode cX6_quotient 11 = .ok (.ireturn, 1) := by decide +kernel
theorem dX6_distance_0 : decode cX6_distance 0 = .ok (.iload_n 0, 1) := by decide +kernel
theorem dX6_distance_1 : decode cX6_distance 1 = .ok (.iload_n 1, 1) := by decide +kernel
theorem dX6_distance_2 : decode cX6_distance 2 = .ok (.if_icmp .ge 9, 3) := by decide +kernel
theorem dX6_distance_5 : decode cX6_distance 5 = .ok (.iload_n 1, 1) := by decide +kernel
theorem dX6_distance_6 : decode cX6_distance 6 = .ok (.iload_n 0, 1) := by decide +kernel
theorem dX6_distance_7 : decode cX6_distance 7 = .ok (.isub, 1) := by decide +kernel
theorem dX6_distance_8 : decode cX6_distance 8 = .ok (.goto 6, 3) := by decide +kernel
theorem dX6_distance_11 : decode cX6_distance 11 = .ok (.iload_n 0, 1) := by decide +kernel
theorem dX6_distance_12 : decode cX6_distance 12 = .ok (.iload_n 1, 1) := by decide +kernel
theorem dX6_distance_13 : decode cX6_distance 13 = .ok (.isub, 1) := by decide +kernel
theorem dX6_distance_14 : decode cX6_distance 14 = .ok (.ireturn, 1) := by decide +kernel
theorem dX7_init_0 : decode cX7_init 0 = .ok (.aload_n 0, 1) := by decide +kernel
theorem dX7_init_1 : decode cX7_init 1 = .ok (.aload_n 1, 1) := by decide +kernel
theorem dX7_init_2 : decode cX7_init 2 = .ok (.putfield 3, 3) := by decide +kernel
theorem dX7_init_5 : decode cX7_init 5 = .ok (.aload_n 0, 1) := by decide +kernel
theorem dX7_init_6 : decode cX7_init 6 = .ok (.invokespecial 9, 3) := by decide +kernel
theorem dX7_init_9 : decode cX7_init 9 = .ok (.aload_n 0, 1) := by decide +kernel
theorem dX7_init_10 : decode cX7_init 10 = .ok (.bipush 8, 2) := by decide +kernel
theorem dX7_init_12 : decode cX7_init 12 = .ok (.newarray .int, 2) := by decide +kernel
theorem dX7_init_14 : decode cX7_init 14 = .ok (.putfield 15, 3) := by decide +kernel
theorem dX7_init_17 : decode cX7_init 17 = .ok (.aload_n 0, 1) := by decide +kernel
theorem dX7_init_18 : decode cX7_init 18 = .ok (.bipush 8, 2) := by decide +kernel
theorem dX7_init_20 : decode cX7_init 20 = .ok (.newarray .int, 2) := by decide +kernel
theorem dX7_init_22 : decode cX7_init 22 = .ok (.putfield 19, 3) := by decide +kernel
theorem dX7_init_25 : decode cX7_init 25 = .ok (.aload_n 0, 1) := by decide +kernel
theorem dX7_init_26 : decode cX7_init 26 = .ok (.sipush 1280, 3) := by decide +kernel
theorem dX7_init_29 : decode cX7_init 29 = .ok (.newarray .int, 2) := by decide +kernel
theorem dX7_init_31 : decode cX7_init 31 = .ok (.putfield 22, 3) := by decide +kernel
theorem dX7_init_34 : decode cX7_init 34 = .ok (.aload_n 0, 1) := by decide +kernel
theorem dX7_init_35 : decode cX7_init 35 = .ok (.bipush 60, 2) := by decide +kernel
theorem dX7_init_37 : decode cX7_init 37 = .ok (.newarray .int, 2) := by decide +kernel
theorem dX7_init_39 : decode cX7_init 39 = .ok (.putfield 25, 3) := by decide +kernel
theorem dX7_init_42 : decode cX7_init 42 = .ok (.return_, 1) := by decide +kernel
theorem dX7_copy_0 : decode cX7_copy 0 = .ok (.aload_n 1, 1) := by decide +kernel
theorem dX7_copy_1 : decode cX7_copy 1 = .ok (.iconst 0, 1) := by decide +kernel
theorem dX7_copy_2 : decode cX7_copy 2 = .ok (.aload_n 2, 1) := by decide +kernel
theorem dX7_copy_3 : decode cX7_copy 3 = .ok (.iconst 0, 1) := by decide +kernel
theorem dX7_copy_4 : decode cX7_copy 4 = .ok (.aload_n 1, 1) := by decide +kernel
theorem dX7_copy_5 : decode cX7_copy 5 = .ok (.arraylength, 1) := by decide +kernel
theorem dX7_copy_6 : decode cX7_copy 6 = .ok (.invokestatic 28, 3) := by decide +kernel
theorem dX7_copy_9 : decode cX7_copy 9 = .ok (.return_, 1) := by decide +kernel
theorem dX7_become_0 : decode cX7_become 0 = .ok (.aload_n 0, 1) := by decide +kernel
theorem dX7_become_1 : decode cX7_become 1 = .ok (.aload_n 1, 1) := by decide +kernel
theorem dX7_become_2 : decode cX7_become 2 = .ok (.getfield 34, 3) := by decide +kernel
theorem dX7_become_5 : decode cX7_become 5 = .ok (.putfield 34, 3) := by decide +kernel
theorem dX7_become_8 : decode cX7_become 8 = .ok (.aload_n 0, 1) := by decide +kernel
theorem dX7_become_9 : decode cX7_become 9 = .ok (.aload_n 1, 1) := by decide +kernel
theorem dX7_become_10 : decode cX7_become 10 = .ok (.getfield 38, 3) := by decide +kernel
theorem dX7_become_13 : decode cX7_become 13 = .ok (.putfield 38, 3) := by decide +kernel
theorem dX7_become_16 : decode cX7_become 16 = .ok (.aload_n 0, 1) := by decide +kernel
theorem dX7_become_17 : decode cX7_become 17 = .ok (.aload_n 1, 1) := by decide +kernel
theorem dX7_become_18 : decode cX7_become 18 = .ok (.getfield 41, 3) := by decide +kernel
theorem dX7_become_21 : decode cX7_become 21 = .ok (.putfield 41, 3) := by decide +kernel
theorem dX7_become_24 : decode cX7_become 24 = .ok (.aload_n 0, 1) := by decide +kernel
theorem dX7_become_25 : decode cX7_become 25 = .ok (.aload_n 1, 1) := by decide +kernel
theorem dX7_become_26 : decode cX7_become 26 = .ok (.getfield 44, 3) := by decide +kernel
theorem dX7_become_29 : decode cX7_become 29 = .ok (.putfield 44, 3) := by decide +kernel
theorem dX7_become_32 : decode cX7_become 32 = .ok (.aload_n 0, 1) := by decide +kernel
theorem dX7_become_33 : decode cX7_become 33 = .ok (.aload_n 1, 1) := by decide +kernel
theorem dX7_become_34 : decode cX7_become 34 = .ok (.getfield 15, 3) := by decide +kernel
theorem dX7_become_37 : decode cX7_become 37 = .ok (.aload_n 0, 1) := by decide +kernel
theorem dX7_become_38 : decode cX7_become 38 = .ok (.getfield 15, 3) := by decide +kernel
theorem dX7_become_41 : decode cX7_become 41 = .ok (.invokevirtual 47, 3) := by decide +kernel
theorem dX7_become_44 : decode cX7_become 44 = .ok (.aload_n 0, 1) := by decide +kernel
theorem dX7_become_45 : decode cX7_become 45 = .ok (.aload_n 1, 1) := by decide +kernel
theorem dX7_become_46 : decode cX7_become 46 = .ok (.getfield 19, 3) := by decide +kernel
theorem dX7_become_49 : decode cX7_become 49 = .ok (.aload_n 0, 1) := by decide +kernel
theorem dX7_become_50 : decode cX7_become 50 = .ok (.getfield 19, 3) := by decide +kernel
theorem dX7_become_53 : decode cX7_become 53 = .ok (.invokevirtual 47, 3) := by decide +kernel
theorem dX7_become_56 : decode cX7_become 56 = .ok (.aload_n 0, 1) := by decide +kernel
theorem dX7_become_57 : decode cX7_become 57 = .ok (.aload_n 1, 1) := by decide +kernel
theorem dX7_become_58 : decode cX7_become 58 = .ok (.getfield 22, 3) := by decide +kernel
theorem dX7_become_61 : decode cX7_become 61 = .ok (.aload_n 0, 1) := by decide +kernel
theorem dX7_become_62 : decode cX7_become 62 = .ok (.getfield 22, 3) := by decide +kernel
theorem dX7_become_65 : decode cX7_become 65 = .ok (.invokevirtual 47, 3) := by decide +kernel
theorem dX7_become_68 : decode cX7_become 68 = .ok (.aload_n 0, 1) := by decide +kernel
theorem dX7_become_69 : decode cX7_become 69 = .ok (.aload_n 1, 1) := by decide +kernel
theorem dX7_become_70 : decode cX7_become 70 = .ok (.getfield 25, 3) := by decide +kernel
theorem dX7_become_73 : decode cX7_become 73 = .ok (.aload_n 0, 1) := by decide +kernel
theorem dX7_become_74 : decode cX7_become 74 = .ok (.getfield 25, 3) := by decide +kernel
theorem dX7_become_77 : decode cX7_become 77 = .ok (.invokevirtual 47, 3) := by decide +kernel
theorem dX7_become_80 : decode cX7_become 80 = .ok (.return_, 1) := by decide +kernel
theorem dX7_isInDay_0 : decode cX7_isInDay 0 = .ok (.iconst 0, 1) := by decide +kernel
theorem dX7_isInDay_1 : decode cX7_isInDay 1 = .ok (.istore_n 3, 1) := by decide +kernel
theorem dX7_isInDay_2 : decode cX7_isInDay 2 = .ok (.iload_n 3, 1) := by decide +kernel
theorem dX7_isInDay_3 : decode cX7_isInDay 3 = .ok (.aload_n 0, 1) := by decide +kernel
theorem dX7_isInDay_4 : decode cX7_isInDay 4 = .ok (.getfield 19, 3) := by decide +kernel
theorem dX7_isInDay_7 : decode cX7_isInDay 7 = .ok (.iload_n 1, 1) := by decide +kernel
theorem dX7_isInDay_8 : decode cX7_isInDay 8 = .ok (.iaload, 1) := by decide +kernel
theorem dX7_isInDay_9 : decode cX7_isInDay 9 = .ok (.if_icmp .ge 54, 3) := by decide +kernel
theorem dX7_isInDay_12 : decode cX7_isInDay 12 = .ok (.iconst 4, 1) := by decide +kernel
theorem dX7_isInDay_13 : decode cX7_isInDay 13 = .ok (.bipush 40, 2) := by decide +kernel
theorem dX7_isInDay_15 : decode cX7_isInDay 15 = .ok (.iload_n 1, 1) := by decide +kernel
theorem dX7_isInDay_16 : decode cX7_isInDay 16 = .ok (.imul, 1) := by decide +kernel
theorem dX7_isInDay_17 : decode cX7_isInDay 17 = .ok (.iload_n 3, 1) := by decide +kernel
theorem dX7_isInDay_18 : decode cX7_isInDay 18 = .ok (.iadd, 1) := by decide +kernel
theorem dX7_isInDay_19 : decode cX7_isInDay 19 = .ok (.imul, 1) := by decide +kernel
theorem dX7_isInDay_20 : decode cX7_isInDay 20 = .ok (.istore 4, 2) := by decide +kernel
theorem dX7_isInDay_22 : decode cX7_isInDay 22 = .ok (.aload_n 0, 1) := by decide +kernel
theorem dX7_isInDay_23 : decode cX7_isInDay 23 = .ok (.getfield 22, 3) := by decide +kernel
theorem dX7_isInDay_26 : decode cX7_isInDay 26 = .ok (.iload 4, 2) := by decide +kernel
theorem dX7_isInDay_28 : decode cX7_isInDay 28 = .ok (.iconst 1, 1) := by decide +kernel
theorem dX7_isInDay_29 : decode cX7_isInDay 29 = .ok (.iadd, 1) := by decide +kernel
theorem dX7_isInDay_30 : decode cX7_isInDay 30 = .ok (.iaload, 1) := by decide +kernel
theorem dX7_isInDay_31 : decode cX7_isInDay 31 = .ok (.iload_n 2, 1) := by decide +kernel
theorem dX7_isInDay_32 : decode cX7_isInDay 32 = .ok (.if_icmp .ne 25, 3) := by decide +kernel
theorem dX7_isInDay_35 : decode cX7_isInDay 35 = .ok (.aload_n 0, 1) := by decide +kernel
theorem dX7_isInDay_36 : decode cX7_isInDay 36 = .ok (.getfield 22, 3) := by decide +kernel
theorem dX7_isInDay_39 : decode cX7_isInDay 39 = .ok (.iload 4, 2) := by decide +kernel
theorem dX7_isInDay_41 : decode cX7_isInDay 41 = .ok (.iaload, 1) := by decide +kernel
theorem dX7_isInDay_42 : decode cX7_isInDay 42 = .ok (.bipush 24, 2) := by decide +kernel
theorem dX7_isInDay_44 : decode cX7_isInDay 44 = .ok (.idiv, 1) := by decide +kernel
theorem dX7_isInDay_45 : decode cX7_isInDay 45 = .ok (.aload_n 0, 1) := by decide +kernel
theorem dX7_isInDay_46 : decode cX7_isInDay 46 = .ok (.getfield 34, 3) := by decide +kernel
theorem dX7_isInDay_49 : decode cX7_isInDay 49 = .ok (.bipush 24, 2) := by decide +kernel
theorem dX7_isInDay_51 : decode cX7_isInDay 51 = .ok (.idiv, 1) := by decide +kernel
theorem dX7_isInDay_52 : decode cX7_isInDay 52 = .ok (.if_icmp .ne 5, 3) := by decide +kernel
theorem dX7_isInDay_55 : decode cX7_isInDay 55 = .ok (.iconst 1, 1) := by decide +kernel
theorem dX7_isInDay_56 : decode cX7_isInDay 56 = .ok (.ireturn, 1) := by decide +kernel
theorem dX7_isInDay_57 : decode cX7_isInDay 57 = .ok (.iinc 3 1, 3) := by decide +kernel
theorem dX7_isInDay_60 : decode cX7_isInDay 60 = .ok (.goto (-58), 3) := by decide +kernel
theorem dX7_isInDay_63 : decode cX7_isInDay 63 = .ok (.iconst 0, 1) := by decide +kernel
theorem dX7_isInDay_64 : decode cX7_isInDay 64 = .ok (.ireturn, 1) := by decide +kernel
theorem dX7_hear_0 : decode cX7_hear 0 = .ok (.aload_n 0, 1) := by decide +kernel
theorem dX7_hear_1 : decode cX7_hear 1 = .ok (.getfield 3, 3) := by decide +kernel
theorem dX7_hear_4 : decode cX7_hear 4 = .ok (.aload_n 0, 1) := by decide +kernel
theorem dX7_hear_5 : decode cX7_hear 5 = .ok (.getfield 34, 3) := by decide +kernel
theorem dX7_hear_8 : decode cX7_hear 8 = .ok (.invokevirtual 51, 3) := by decide +kernel
theorem dX7_hear_11 : decode cX7_hear 11 = .ok (.istore_n 1, 1) := by decide +kernel
theorem dX7_hear_12 : decode cX7_hear 12 = .ok (.iconst 0, 1) := by decide +kernel
theorem dX7_hear_13 : decode cX7_hear 13 = .ok (.istore_n 2, 1) := by decide +kernel
theorem dX7_hear_14 : decode cX7_hear 14 = .ok (.iload_n 2, 1) := by decide +kernel
theorem dX7_hear_15 : decode cX7_hear 15 = .ok (.aload_n 0, 1) := by decide +kernel
theorem dX7_hear_16 : decode cX7_hear 16 = .ok (.getfield 3, 3) := by decide +kernel
theorem dX7_hear_19 : decode cX7_hear 19 = .ok (.getfield 55, 3) := by decide +kernel
theorem dX7_hear_22 : decode cX7_hear 22 = .ok (.if_icmp .ge 201, 3) := by decide +kernel
theorem dX7_hear_25 : decode cX7_hear 25 = .ok (.aload_n 0, 1) := by decide +kernel
theorem dX7_hear_26 : decode cX7_hear 26 = .ok (.getfield 3, 3) := by decide +kernel
theorem dX7_hear_29 : decode cX7_hear 29 = .ok (.getfield 58, 3) := by decide +kernel
theorem dX7_hear_32 : decode cX7_hear 32 = .ok (.iload_n 2, 1) := by decide +kernel
theorem dX7_hear_33 : decode cX7_hear 33 = .ok (.iaload, 1) := by decide +kernel
theorem dX7_hear_34 : decode cX7_hear 34 = .ok (.ifCond .eq 183, 3) := by decide +kernel
theorem dX7_hear_37 : decode cX7_hear 37 = .ok (.aload_n 0, 1) := by decide +kernel
theorem dX7_hear_38 : decode cX7_hear 38 = .ok (.getfield 19, 3) := by decide +kernel
theorem dX7_hear_41 : decode cX7_hear 41 = .ok (.iload_n 2, 1) := by decide +kernel
theorem dX7_hear_42 : decode cX7_hear 42 = .ok (.iaload, 1) := by decide +kernel
theorem dX7_hear_43 : decode cX7_hear 43 = .ok (.bipush 40, 2) := by decide +kernel
theorem dX7_hear_45 : decode cX7_hear 45 = .ok (.if_icmp .ne 6, 3) := by decide +kernel
theorem dX7_hear_48 : decode cX7_hear 48 = .ok (.goto 169, 3) := by decide +kernel
theorem dX7_hear_51 : decode cX7_hear 51 = .ok (.aload_n 0, 1) := by decide +kernel
end
section
theorem dX7_hear_52 : decode cX7_hear 52 = .ok (.getfield 3, 3) := by decide +kernel
theorem dX7_hear_55 : decode cX7_hear 55 = .ok (.iload_n 2, 1) := by decide +kernel
theorem dX7_hear_56 : decode cX7_hear 56 = .ok (.aload_n 0, 1) := by decide +kernel
theorem dX7_hear_57 : decode cX7_hear 57 = .ok (.getfield 34, 3) := by decide +kernel
theorem dX7_hear_60 : decode cX7_hear 60 = .ok (.aload_n 0, 1) := by decide +kernel
theorem dX7_hear_61 : decode cX7_hear 61 = .ok (.getfield 3, 3) := by decide +kernel
theorem dX7_hear_64 : decode cX7_hear 64 = .ok (.getfield 61, 3) := by decide +kernel
theorem dX7_hear_67 : decode cX7_hear 67 = .ok (.iload_n 2, 1) := by decide +kernel
theorem dX7_hear_68 : decode cX7_hear 68 = .ok (.iaload, 1) := by decide +kernel
theorem dX7_hear_69 : decode cX7_hear 69 = .ok (.aload_n 0, 1) := by decide +kernel
theorem dX7_hear_70 : decode cX7_hear 70 = .ok (.getfield 3, 3) := by decide +kernel
theorem dX7_hear_73 : decode cX7_hear 73 = .ok (.getfield 64, 3) := by decide +kernel
theorem dX7_hear_76 : decode cX7_hear 76 = .ok (.iload_n 2, 1) := by decide +kernel
theorem dX7_hear_77 : decode cX7_hear 77 = .ok (.iaload, 1) := by decide +kernel
theorem dX7_hear_78 : decode cX7_hear 78 = .ok (.aload_n 0, 1) := by decide +kernel
theorem dX7_hear_79 : decode cX7_hear 79 = .ok (.getfield 15, 3) := by decide +kernel
theorem dX7_hear_82 : decode cX7_hear 82 = .ok (.iload_n 2, 1) := by decide +kernel
theorem dX7_hear_83 : decode cX7_hear 83 = .ok (.iaload, 1) := by decide +kernel
theorem dX7_hear_84 : decode cX7_hear 84 = .ok (.iload_n 1, 1) := by decide +kernel
theorem dX7_hear_85 : decode cX7_hear 85 = .ok (.invokevirtual 67, 3) := by decide +kernel
theorem dX7_hear_88 : decode cX7_hear 88 = .ok (.istore_n 3, 1) := by decide +kernel
theorem dX7_hear_89 : decode cX7_hear 89 = .ok (.iload_n 3, 1) := by decide +kernel
theorem dX7_hear_90 : decode cX7_hear 90 = .ok (.ifCond .lt 127, 3) := by decide +kernel
theorem dX7_hear_93 : decode cX7_hear 93 = .ok (.aload_n 0, 1) := by decide +kernel
theorem dX7_hear_94 : decode cX7_hear 94 = .ok (.iload_n 2, 1) := by decide +kernel
theorem dX7_hear_95 : decode cX7_hear 95 = .ok (.iload_n 3, 1) := by decide +kernel
theorem dX7_hear_96 : decode cX7_hear 96 = .ok (.invokevirtual 71, 3) := by decide +kernel
theorem dX7_hear_99 : decode cX7_hear 99 = .ok (.ifCond .eq 6, 3) := by decide +kernel
theorem dX7_hear_102 : decode cX7_hear 102 = .ok (.goto 115, 3) := by decide +kernel
theorem dX7_hear_105 : decode cX7_hear 105 = .ok (.iconst 4, 1) := by decide +kernel
theorem dX7_hear_106 : decode cX7_hear 106 = .ok (.bipush 40, 2) := by decide +kernel
theorem dX7_hear_108 : decode cX7_hear 108 = .ok (.iload_n 2, 1) := by decide +kernel
theorem dX7_hear_109 : decode cX7_hear 109 = .ok (.imul, 1) := by decide +kernel
theorem dX7_hear_110 : decode cX7_hear 110 = .ok (.aload_n 0, 1) := by decide +kernel
theorem dX7_hear_111 : decode cX7_hear 111 = .ok (.getfield 19, 3) := by decide +kernel
theorem dX7_hear_114 : decode cX7_hear 114 = .ok (.iload_n 2, 1) := by decide +kernel
theorem dX7_hear_115 : decode cX7_hear 115 = .ok (.iaload, 1) := by decide +kernel
theorem dX7_hear_116 : decode cX7_hear 116 = .ok (.iadd, 1) := by decide +kernel
theorem dX7_hear_117 : decode cX7_hear 117 = .ok (.imul, 1) := by decide +kernel
theorem dX7_hear_118 : decode cX7_hear 118 = .ok (.istore 4, 2) := by decide +kernel
theorem dX7_hear_120 : decode cX7_hear 120 = .ok (.aload_n 0, 1) := by decide +kernel
theorem dX7_hear_121 : decode cX7_hear 121 = .ok (.getfield 22, 3) := by decide +kernel
theorem dX7_hear_124 : decode cX7_hear 124 = .ok (.iload 4, 2) := by decide +kernel
theorem dX7_hear_126 : decode cX7_hear 126 = .ok (.aload_n 0, 1) := by decide +kernel
theorem dX7_hear_127 : decode cX7_hear 127 = .ok (.getfield 34, 3) := by decide +kernel
theorem dX7_hear_130 : decode cX7_hear 130 = .ok (.iastore, 1) := by decide +kernel
theorem dX7_hear_131 : decode cX7_hear 131 = .ok (.aload_n 0, 1) := by decide +kernel
theorem dX7_hear_132 : decode cX7_hear 132 = .ok (.getfield 22, 3) := by decide +kernel
theorem dX7_hear_135 : decode cX7_hear 135 = .ok (.iload 4, 2) := by decide +kernel
theorem dX7_hear_137 : decode cX7_hear 137 = .ok (.iconst 1, 1) := by decide +kernel
theorem dX7_hear_138 : decode cX7_hear 138 = .ok (.iadd, 1) := by decide +kernel
theorem dX7_hear_139 : decode cX7_hear 139 = .ok (.iload_n 3, 1) := by decide +kernel
theorem dX7_hear_140 : decode cX7_hear 140 = .ok (.iastore, 1) := by decide +kernel
theorem dX7_hear_141 : decode cX7_hear 141 = .ok (.aload_n 0, 1) := by decide +kernel
theorem dX7_hear_142 : decode cX7_hear 142 = .ok (.getfield 22, 3) := by decide +kernel
theorem dX7_hear_145 : decode cX7_hear 145 = .ok (.iload 4, 2) := by decide +kernel
theorem dX7_hear_147 : decode cX7_hear 147 = .ok (.iconst 2, 1) := by decide +kernel
theorem dX7_hear_148 : decode cX7_hear 148 = .ok (.iadd, 1) := by decide +kernel
theorem dX7_hear_149 : decode cX7_hear 149 = .ok (.aload_n 0, 1) := by decide +kernel
theorem dX7_hear_150 : decode cX7_hear 150 = .ok (.getfield 3, 3) := by decide +kernel
theorem dX7_hear_153 : decode cX7_hear 153 = .ok (.iload_n 2, 1) := by decide +kernel
theorem dX7_hear_154 : decode cX7_hear 154 = .ok (.iload_n 3, 1) := by decide +kernel
theorem dX7_hear_155 : decode cX7_hear 155 = .ok (.aload_n 0, 1) := by decide +kernel
theorem dX7_hear_156 : decode cX7_hear 156 = .ok (.getfield 34, 3) := by decide +kernel
theorem dX7_hear_159 : decode cX7_hear 159 = .ok (.aload_n 0, 1) := by decide +kernel
theorem dX7_hear_160 : decode cX7_hear 160 = .ok (.getfield 3, 3) := by decide +kernel
theorem dX7_hear_163 : decode cX7_hear 163 = .ok (.getfield 61, 3) := by decide +kernel
theorem dX7_hear_166 : decode cX7_hear 166 = .ok (.iload_n 2, 1) := by decide +kernel
theorem dX7_hear_167 : decode cX7_hear 167 = .ok (.iaload, 1) := by decide +kernel
theorem dX7_hear_168 : decode cX7_hear 168 = .ok (.aload_n 0, 1) := by decide +kernel
theorem dX7_hear_169 : decode cX7_hear 169 = .ok (.getfield 3, 3) := by decide +kernel
theorem dX7_hear_172 : decode cX7_hear 172 = .ok (.getfield 64, 3) := by decide +kernel
theorem dX7_hear_175 : decode cX7_hear 175 = .ok (.iload_n 2, 1) := by decide +kernel
theorem dX7_hear_176 : decode cX7_hear 176 = .ok (.iaload, 1) := by decide +kernel
theorem dX7_hear_177 : decode cX7_hear 177 = .ok (.aload_n 0, 1) := by decide +kernel
theorem dX7_hear_178 : decode cX7_hear 178 = .ok (.getfield 15, 3) := by decide +kernel
theorem dX7_hear_181 : decode cX7_hear 181 = .ok (.iload_n 2, 1) := by decide +kernel
theorem dX7_hear_182 : decode cX7_hear 182 = .ok (.iaload, 1) := by decide +kernel
theorem dX7_hear_183 : decode cX7_hear 183 = .ok (.invokevirtual 75, 3) := by decide +kernel
theorem dX7_hear_186 : decode cX7_hear 186 = .ok (.iastore, 1) := by decide +kernel
theorem dX7_hear_187 : decode cX7_hear 187 = .ok (.aload_n 0, 1) := by decide +kernel
theorem dX7_hear_188 : decode cX7_hear 188 = .ok (.getfield 22, 3) := by decide +kernel
theorem dX7_hear_191 : decode cX7_hear 191 = .ok (.iload 4, 2) := by decide +kernel
theorem dX7_hear_193 : decode cX7_hear 193 = .ok (.iconst 3, 1) := by decide +kernel
theorem dX7_hear_194 : decode cX7_hear 194 = .ok (.iadd, 1) := by decide +kernel
theorem dX7_hear_195 : decode cX7_hear 195 = .ok (.iconst 0, 1) := by decide +kernel
theorem dX7_hear_196 : decode cX7_hear 196 = .ok (.iastore, 1) := by decide +kernel
theorem dX7_hear_197 : decode cX7_hear 197 = .ok (.aload_n 0, 1) := by decide +kernel
theorem dX7_hear_198 : decode cX7_hear 198 = .ok (.getfield 19, 3) := by decide +kernel
theorem dX7_hear_201 : decode cX7_hear 201 = .ok (.iload_n 2, 1) := by decide +kernel
theorem dX7_hear_202 : decode cX7_hear 202 = .ok (.dup2, 1) := by decide +kernel
theorem dX7_hear_203 : decode cX7_hear 203 = .ok (.iaload, 1) := by decide +kernel
theorem dX7_hear_204 : decode cX7_hear 204 = .ok (.iconst 1, 1) := by decide +kernel
theorem dX7_hear_205 : decode cX7_hear 205 = .ok (.iadd, 1) := by decide +kernel
theorem dX7_hear_206 : decode cX7_hear 206 = .ok (.iastore, 1) := by decide +kernel
theorem dX7_hear_207 : decode cX7_hear 207 = .ok (.aload_n 0, 1) := by decide +kernel
theorem dX7_hear_208 : decode cX7_hear 208 = .ok (.dup, 1) := by decide +kernel
theorem dX7_hear_209 : decode cX7_hear 209 = .ok (.getfield 41, 3) := by decide +kernel
theorem dX7_hear_212 : decode cX7_hear 212 = .ok (.iconst 1, 1) := by decide +kernel
theorem dX7_hear_213 : decode cX7_hear 213 = .ok (.iadd, 1) := by decide +kernel
theorem dX7_hear_214 : decode cX7_hear 214 = .ok (.putfield 41, 3) := by decide +kernel
theorem dX7_hear_217 : decode cX7_hear 217 = .ok (.iinc 2 1, 3) := by decide +kernel
theorem dX7_hear_220 : decode cX7_hear 220 = .ok (.goto (-206), 3) := by decide +kernel
theorem dX7_hear_223 : decode cX7_hear 223 = .ok (.return_, 1) := by decide +kernel
theorem dX7_answer_0 : decode cX7_answer 0 = .ok (.iconst 0, 1) := by decide +kernel
theorem dX7_answer_1 : decode cX7_answer 1 = .ok (.istore_n 1, 1) := by decide +kernel
theorem dX7_answer_2 : decode cX7_answer 2 = .ok (.iconst 0, 1) := by decide +kernel
theorem dX7_answer_3 : decode cX7_answer 3 = .ok (.istore_n 2, 1) := by decide +kernel
theorem dX7_answer_4 : decode cX7_answer 4 = .ok (.iload_n 2, 1) := by decide +kernel
theorem dX7_answer_5 : decode cX7_answer 5 = .ok (.aload_n 0, 1) := by decide +kernel
theorem dX7_answer_6 : decode cX7_answer 6 = .ok (.getfield 38, 3) := by decide +kernel
theorem dX7_answer_9 : decode cX7_answer 9 = .ok (.if_icmp .ge 102, 3) := by decide +kernel
theorem dX7_answer_12 : decode cX7_answer 12 = .ok (.aload_n 0, 1) := by decide +kernel
theorem dX7_answer_13 : decode cX7_answer 13 = .ok (.getfield 25, 3) := by decide +kernel
theorem dX7_answer_16 : decode cX7_answer 16 = .ok (.iconst 2, 1) := by decide +kernel
theorem dX7_answer_17 : decode cX7_answer 17 = .ok (.iload_n 2, 1) := by decide +kernel
theorem dX7_answer_18 : decode cX7_answer 18 = .ok (.imul, 1) := by decide +kernel
theorem dX7_answer_19 : decode cX7_answer 19 = .ok (.iaload, 1) := by decide +kernel
theorem dX7_answer_20 : decode cX7_answer 20 = .ok (.istore_n 3, 1) := by decide +kernel
theorem dX7_answer_21 : decode cX7_answer 21 = .ok (.aload_n 0, 1) := by decide +kernel
theorem dX7_answer_22 : decode cX7_answer 22 = .ok (.getfield 25, 3) := by decide +kernel
theorem dX7_answer_25 : decode cX7_answer 25 = .ok (.iconst 2, 1) := by decide +kernel
theorem dX7_answer_26 : decode cX7_answer 26 = .ok (.iload_n 2, 1) := by decide +kernel
theorem dX7_answer_27 : decode cX7_answer 27 = .ok (.imul, 1) := by decide +kernel
theorem dX7_answer_28 : decode cX7_answer 28 = .ok (.iconst 1, 1) := by decide +kernel
theorem dX7_answer_29 : decode cX7_answer 29 = .ok (.iadd, 1) := by decide +kernel
theorem dX7_answer_30 : decode cX7_answer 30 = .ok (.iaload, 1) := by decide +kernel
theorem dX7_answer_31 : decode cX7_answer 31 = .ok (.istore 4, 2) := by decide +kernel
theorem dX7_answer_33 : decode cX7_answer 33 = .ok (.iload 4, 2) := by decide +kernel
theorem dX7_answer_35 : decode cX7_answer 35 = .ok (.aload_n 0, 1) := by decide +kernel
theorem dX7_answer_36 : decode cX7_answer 36 = .ok (.getfield 34, 3) := by decide +kernel
theorem dX7_answer_39 : decode cX7_answer 39 = .ok (.if_icmp .le 30, 3) := by decide +kernel
theorem dX7_answer_42 : decode cX7_answer 42 = .ok (.aload_n 0, 1) := by decide +kernel
theorem dX7_answer_43 : decode cX7_answer 43 = .ok (.getfield 25, 3) := by decide +kernel
theorem dX7_answer_46 : decode cX7_answer 46 = .ok (.iconst 2, 1) := by decide +kernel
theorem dX7_answer_47 : decode cX7_answer 47 = .ok (.iload_n 1, 1) := by decide +kernel
theorem dX7_answer_48 : decode cX7_answer 48 = .ok (.imul, 1) := by decide +kernel
theorem dX7_answer_49 : decode cX7_answer 49 = .ok (.iload_n 3, 1) := by decide +kernel
theorem dX7_answer_50 : decode cX7_answer 50 = .ok (.iastore, 1) := by decide +kernel
theorem dX7_answer_51 : decode cX7_answer 51 = .ok (.aload_n 0, 1) := by decide +kernel
theorem dX7_answer_52 : decode cX7_answer 52 = .ok (.getfield 25, 3) := by decide +kernel
theorem dX7_answer_55 : decode cX7_answer 55 = .ok (.iconst 2, 1) := by decide +kernel
theorem dX7_answer_56 : decode cX7_answer 56 = .ok (.iload_n 1, 1) := by decide +kernel
theorem dX7_answer_57 : decode cX7_answer 57 = .ok (.imul, 1) := by decide +kernel
theorem dX7_answer_58 : decode cX7_answer 58 = .ok (.iconst 1, 1) := by decide +kernel
theorem dX7_answer_59 : decode cX7_answer 59 = .ok (.iadd, 1) := by decide +kernel
theorem dX7_answer_60 : decode cX7_answer 60 = .ok (.iload 4, 2) := by decide +kernel
theorem dX7_answer_62 : decode cX7_answer 62 = .ok (.iastore, 1) := by decide +kernel
theorem dX7_answer_63 : decode cX7_answer 63 = .ok (.iinc 1 1, 3) := by decide +kernel
theorem dX7_answer_66 : decode cX7_answer 66 = .ok (.goto 39, 3) := by decide +kernel
theorem dX7_answer_69 : decode cX7_answer 69 = .ok (.aload_n 0, 1) := by decide +kernel
theorem dX7_answer_70 : decode cX7_answer 70 = .ok (.getfield 22, 3) := by decide +kernel
theorem dX7_answer_73 : decode cX7_answer 73 = .ok (.iconst 4, 1) := by decide +kernel
theorem dX7_answer_74 : decode cX7_answer 74 = .ok (.iload_n 3, 1) := by decide +kernel
theorem dX7_answer_75 : decode cX7_answer 75 = .ok (.imul, 1) := by decide +kernel
theorem dX7_answer_76 : decode cX7_answer 76 = .ok (.iconst 2, 1) := by decide +kernel
theorem dX7_answer_77 : decode cX7_answer 77 = .ok (.iadd, 1) := by decide +kernel
theorem dX7_answer_78 : decode cX7_answer 78 = .ok (.iaload, 1) := by decide +kernel
theorem dX7_answer_79 : decode cX7_answer 79 = .ok (.bipush 8, 2) := by decide +kernel
theorem dX7_answer_81 : decode cX7_answer 81 = .ok (.if_icmp .lt 24, 3) := by decide +kernel
theorem dX7_answer_84 : decode cX7_answer 84 = .ok (.aload_n 0, 1) := by decide +kernel
theorem dX7_answer_85 : decode cX7_answer 85 = .ok (.getfield 22, 3) := by decide +kernel
theorem dX7_answer_88 : decode cX7_answer 88 = .ok (.iconst 4, 1) := by decide +kernel
theorem dX7_answer_89 : decode cX7_answer 89 = .ok (.iload_n 3, 1) := by decide +kernel
theorem dX7_answer_90 : decode cX7_answer 90 = .ok (.imul, 1) := by decide +kernel
theorem dX7_answer_91 : decode cX7_answer 91 = .ok (.iconst 3, 1) := by decide +kernel
theorem dX7_answer_92 : decode cX7_answer 92 = .ok (.iadd, 1) := by decide +kernel
theorem dX7_answer_93 : decode cX7_answer 93 = .ok (.iconst 1, 1) := by decide +kernel
theorem dX7_answer_94 : decode cX7_answer 94 = .ok (.iastore, 1) := by decide +kernel
theorem dX7_answer_95 : decode cX7_answer 95 = .ok (.aload_n 0, 1) := by decide +kernel
theorem dX7_answer_96 : decode cX7_answer 96 = .ok (.dup, 1) := by decide +kernel
theorem dX7_answer_97 : decode cX7_answer 97 = .ok (.getfield 44, 3) := by decide +kernel
theorem dX7_answer_100 : decode cX7_answer 100 = .ok (.iconst 1, 1) := by decide +kernel
theorem dX7_answer_101 : decode cX7_answer 101 = .ok (.iadd, 1) := by decide +kernel
theorem dX7_answer_102 : decode cX7_answer 102 = .ok (.putfield 44, 3) := by decide +kernel
theorem dX7_answer_105 : decode cX7_answer 105 = .ok (.iinc 2 1, 3) := by decide +kernel
theorem dX7_answer_108 : decode cX7_answer 108 = .ok (.goto (-104), 3) := by decide +kernel
theorem dX7_answer_111 : decode cX7_answer 111 = .ok (.aload_n 0, 1) := by decide +kernel
theorem dX7_answer_112 : decode cX7_answer 112 = .ok (.iload_n 1, 1) := by decide +kernel
theorem dX7_answer_113 : decode cX7_answer 113 = .ok (.putfield 38, 3) := by decide +kernel
theorem dX7_answer_116 : decode cX7_answer 116 = .ok (.return_, 1) := by decide +kernel
theorem dX7_pass_0 : decode cX7_pass 0 = .ok (.iconst 0, 1) := by decide +kernel
theorem dX7_pass_1 : decode cX7_pass 1 = .ok (.istore_n 2, 1) := by decide +kernel
theorem dX7_pass_2 : decode cX7_pass 2 = .ok (.iload_n 2, 1) := by decide +kernel
theorem dX7_pass_3 : decode cX7_pass 3 = .ok (.iload_n 1, 1) := by decide +kernel
theorem dX7_pass_4 : decode cX7_pass 4 = .ok (.if_icmp .ge 82, 3) := by decide +kernel
theorem dX7_pass_7 : decode cX7_pass 7 = .ok (.aload_n 0, 1) := by decide +kernel
theorem dX7_pass_8 : decode cX7_pass 8 = .ok (.invokevirtual 78, 3) := by decide +kernel
theorem dX7_pass_11 : decode cX7_pass 11 = .ok (.iconst 0, 1) := by decide +kernel
theorem dX7_pass_12 : decode cX7_pass 12 = .ok (.istore_n 3, 1) := by decide +kernel
theorem dX7_pass_13 : decode cX7_pass 13 = .ok (.iload_n 3, 1) := by decide +kernel
theorem dX7_pass_14 : decode cX7_pass 14 = .ok (.aload_n 0, 1) := by decide +kernel
theorem dX7_pass_15 : decode cX7_pass 15 = .ok (.getfield 3, 3) := by decide +kernel
theorem dX7_pass_18 : decode cX7_pass 18 = .ok (.getfield 55, 3) := by decide +kernel
theorem dX7_pass_21 : decode cX7_pass 21 = .ok (.if_icmp .ge 45, 3) := by decide +kernel
theorem dX7_pass_24 : decode cX7_pass 24 = .ok (.aload_n 0, 1) := by decide +kernel
theorem dX7_pass_25 : decode cX7_pass 25 = .ok (.getfield 34, 3) := by decide +kernel
theorem dX7_pass_28 : decode cX7_pass 28 = .ok (.bipush 6, 2) := by decide +kernel
theorem dX7_pass_30 : decode cX7_pass 30 = .ok (.irem, 1) := by decide +kernel
theorem dX7_pass_31 : decode cX7_pass 31 = .ok (.ifCond .ne 35, 3) := by decide +kernel
theorem dX7_pass_34 : decode cX7_pass 34 = .ok (.aload_n 0, 1) := by decide +kernel
theorem dX7_pass_35 : decode cX7_pass 35 = .ok (.getfield 15, 3) := by decide +kernel
theorem dX7_pass_38 : decode cX7_pass 38 = .ok (.iload_n 3, 1) := by decide +kernel
theorem dX7_pass_39 : decode cX7_pass 39 = .ok (.iconst 0, 1) := by decide +kernel
theorem dX7_pass_40 : decode cX7_pass 40 = .ok (.aload_n 0, 1) := by decide +kernel
theorem dX7_pass_41 : decode cX7_pass 41 = .ok (.getfield 15, 3) := by decide +kernel
theorem dX7_pass_44 : decode cX7_pass 44 = .ok (.iload_n 3, 1) := by decide +kernel
theorem dX7_pass_45 : decode cX7_pass 45 = .ok (.iaload, 1) := by decide +kernel
theorem dX7_pass_46 : decode cX7_pass 46 = .ok (.aload_n 0, 1) := by decide +kernel
theorem dX7_pass_47 : decode cX7_pass 47 = .ok (.getfield 3, 3) := by decide +kernel
theorem dX7_pass_50 : decode cX7_pass 50 = .ok (.getfield 58, 3) := by decide +kernel
theorem dX7_pass_53 : decode cX7_pass 53 = .ok (.iload_n 3, 1) := by decide +kernel
theorem dX7_pass_54 : decode cX7_pass 54 = .ok (.iaload, 1) := by decide +kernel
theorem dX7_pass_55 : decode cX7_pass 55 = .ok (.isub, 1) := by decide +kernel
theorem dX7_pass_56 : decode cX7_pass 56 = .ok (.invokestatic 81, 3) := by decide +kernel
theorem dX7_pass_59 : decode cX7_pass 59 = .ok (.iastore, 1) := by decide +kernel
theorem dX7_pass_60 : decode cX7_pass 60 = .ok (.iinc 3 1, 3) := by decide +kernel
theorem dX7_pass_63 : decode cX7_pass 63 = .ok (.goto (-50), 3) := by decide +kernel
theorem dX7_pass_66 : decode cX7_pass 66 = .ok (.aload_n 0, 1) := by decide +kernel
theorem dX7_pass_67 : decode cX7_pass 67 = .ok (.invokevirtual 87, 3) := by decide +kernel
theorem dX7_pass_70 : decode cX7_pass 70 = .ok (.aload_n 0, 1) := by decide +kernel
theorem dX7_pass_71 : decode cX7_pass 71 = .ok (.dup, 1) := by decide +kernel
theorem dX7_pass_72 : decode cX7_pass 72 = .ok (.getfield 34, 3) := by decide +kernel
theorem dX7_pass_75 : decode cX7_pass 75 = .ok (.iconst 1, 1) := by decide +kernel
theorem dX7_pass_76 : decode cX7_pass 76 = .ok (.iadd, 1) := by decide +kernel
theorem dX7_pass_77 : decode cX7_pass 77 = .ok (.putfield 34, 3) := by decide +kernel
theorem dX7_pass_80 : decode cX7_pass 80 = .ok (.iinc 2 1, 3) := by decide +kernel
theorem dX7_pass_83 : decode cX7_pass 83 = .ok (.goto (-81), 3) := by decide +kernel
theorem dX7_pass_86 : decode cX7_pass 86 = .ok (.return_, 1) := by decide +kernel
theorem dX7_hasCard_0 : decode cX7_hasCard 0 = .ok (.iconst 0, 1) := by decide +kernel
theorem dX7_hasCard_1 : decode cX7_hasCard 1 = .ok (.istore_n 3, 1) := by decide +kernel
theorem dX7_hasCard_2 : decode cX7_hasCard 2 = .ok (.iload_n 3, 1) := by decide +kernel
theorem dX7_hasCard_3 : decode cX7_hasCard 3 = .ok (.aload_n 0, 1) := by decide +kernel
theorem dX7_hasCard_4 : decode cX7_hasCard 4 = .ok (.getfield 19, 3) := by decide +kernel
theorem dX7_hasCard_7 : decode cX7_hasCard 7 = .ok (.iload_n 1, 1) := by decide +kernel
theorem dX7_hasCard_8 : decode cX7_hasCard 8 = .ok (.iaload, 1) := by decide +kernel
theorem dX7_hasCard_9 : decode cX7_hasCard 9 = .ok (.if_icmp .ge 47, 3) := by decide +kernel
theorem dX7_hasCard_12 : decode cX7_hasCard 12 = .ok (.iconst 4, 1) := by decide +kernel
theorem dX7_hasCard_13 : decode cX7_hasCard 13 = .ok (.bipush 40, 2) := by decide +kernel
theorem dX7_hasCard_15 : decode cX7_hasCard 15 = .ok (.iload_n 1, 1) := by decide +kernel
theorem dX7_hasCard_16 : decode cX7_hasCard 16 = .ok (.imul, 1) := by decide +kernel
theorem dX7_hasCard_17 : decode cX7_hasCard 17 = .ok (.iload_n 3, 1) := by decide +kernel
theorem dX7_hasCard_18 : decode cX7_hasCard 18 = .ok (.iadd, 1) := by decide +kernel
theorem dX7_hasCard_19 : decode cX7_hasCard 19 = .ok (.imul, 1) := by decide +kernel
theorem dX7_hasCard_20 : decode cX7_hasCard 20 = .ok (.istore 4, 2) := by decide +kernel
theorem dX7_hasCard_22 : decode cX7_hasCard 22 = .ok (.aload_n 0, 1) := by decide +kernel
theorem dX7_hasCard_23 : decode cX7_hasCard 23 = .ok (.getfield 22, 3) := by decide +kernel
theorem dX7_hasCard_26 : decode cX7_hasCard 26 = .ok (.iload 4, 2) := by decide +kernel
theorem dX7_hasCard_28 : decode cX7_hasCard 28 = .ok (.iconst 1, 1) := by decide +kernel
theorem dX7_hasCard_29 : decode cX7_hasCard 29 = .ok (.iadd, 1) := by decide +kernel
theorem dX7_hasCard_30 : decode cX7_hasCard 30 = .ok (.iaload, 1) := by decide +kernel
theorem dX7_hasCard_31 : decode cX7_hasCard 31 = .ok (.iload_n 2, 1) := by decide +kernel
theorem dX7_hasCard_32 : decode cX7_hasCard 32 = .ok (.if_icmp .ne 18, 3) := by decide +kernel
theorem dX7_hasCard_35 : decode cX7_hasCard 35 = .ok (.aload_n 0, 1) := by decide +kernel
theorem dX7_hasCard_36 : decode cX7_hasCard 36 = .ok (.getfield 22, 3) := by decide +kernel
theorem dX7_hasCard_39 : decode cX7_hasCard 39 = .ok (.iload 4, 2) := by decide +kernel
theorem dX7_hasCard_41 : decode cX7_hasCard 41 = .ok (.iconst 3, 1) := by decide +kernel
theorem dX7_hasCard_42 : decode cX7_hasCard 42 = .ok (.iadd, 1) := by decide +kernel
theorem dX7_hasCard_43 : decode cX7_hasCard 43 = .ok (.iaload, 1) := by decide +kernel
theorem dX7_hasCard_44 : decode cX7_hasCard 44 = .ok (.iconst 1, 1) := by decide +kernel
theorem dX7_hasCard_45 : decode cX7_hasCard 45 = .ok (.if_icmp .ne 5, 3) := by decide +kernel
theorem dX7_hasCard_48 : decode cX7_hasCard 48 = .ok (.iconst 1, 1) := by decide +kernel
theorem dX7_hasCard_49 : decode cX7_hasCard 49 = .ok (.ireturn, 1) := by decide +kernel
theorem dX7_hasCard_50 : decode cX7_hasCard 50 = .ok (.iinc 3 1, 3) := by decide +kernel
theorem dX7_hasCard_53 : decode cX7_hasCard 53 = .ok (.goto (-51), 3) := by decide +kernel
theorem dX7_hasCard_56 : decode cX7_hasCard 56 = .ok (.iconst 0, 1) := by decide +kernel
theorem dX7_hasCard_57 : decode cX7_hasCard 57 = .ok (.ireturn, 1) := by decide +kernel
theorem dX8_init_0 : decode cX8_init 0 = .ok (.aload_n 0, 1) := by decide +kernel
theorem dX8_init_1 : decode cX8_init 1 = .ok (.invokespecial 1, 3) := by decide +kernel
theorem dX8_init_4 : decode cX8_init 4 = .ok (.aload_n 0, 1) := by decide +kernel
theorem dX8_init_5 : decode cX8_init 5 = .ok (.bipush 72, 2) := by decide +kernel
theorem dX8_init_7 : decode cX8_init 7 = .ok (.newarray .int, 2) := by decide +kernel
theorem dX8_init_9 : decode cX8_init 9 = .ok (.putfield 9, 3) := by decide +kernel
theorem dX8_init_12 : decode cX8_init 12 = .ok (.aload_n 0, 1) := by decide +kernel
theorem dX8_init_13 : decode cX8_init 13 = .ok (.bipush 8, 2) := by decide +kernel
theorem dX8_init_15 : decode cX8_init 15 = .ok (.newarray .int, 2) := by decide +kernel
theorem dX8_init_17 : decode cX8_init 17 = .ok (.putfield 13, 3) := by decide +kernel
theorem dX8_init_20 : decode cX8_init 20 = .ok (.aload_n 0, 1) := by decide +kernel
theorem dX8_init_21 : decode cX8_init 21 = .ok (.bipush 8, 2) := by decide +kernel
theorem dX8_init_23 : decode cX8_init 23 = .ok (.newarray .int, 2) := by decide +kernel
theorem dX8_init_25 : decode cX8_init 25 = .ok (.putfield 16, 3) := by decide +kernel
theorem dX8_init_28 : decode cX8_init 28 = .ok (.aload_n 0, 1) := by decide +kernel
theorem dX8_init_29 : decode cX8_init 29 = .ok (.bipush 8, 2) := by decide +kernel
theorem dX8_init_31 : decode cX8_init 31 = .ok (.newarray .int, 2) := by decide +kernel
theorem dX8_init_33 : decode cX8_init 33 = .ok (.putfield 19, 3) := by decide +kernel
theorem dX8_init_36 : decode cX8_init 36 = .ok (.aload_n 0, 1) := by decide +kernel
theorem dX8_init_37 : decode cX8_init 37 = .ok (.bipush 8, 2) := by decide +kernel
theorem dX8_init_39 : decode cX8_init 39 = .ok (.newarray .int, 2) := by decide +kernel
theorem dX8_init_41 : decode cX8_init 41 = .ok (.putfield 22, 3) := by decide +kernel
theorem dX8_init_44 : decode cX8_init 44 = .ok (.aload_n 0, 1) := by decide +kernel
theorem dX8_init_45 : decode cX8_init 45 = .ok (.new 25, 3) := by decide +kernel
theorem dX8_init_48 : decode cX8_init 48 = .ok (.dup, 1) := by decide +kernel
theorem dX8_init_49 : decode cX8_init 49 = .ok (.aload_n 0, 1) := by decide +kernel
theorem dX8_init_50 : decode cX8_init 50 = .ok (.invokespecial 27, 3) := by decide +kernel
theorem dX8_init_53 : decode cX8_init 53 = .ok (.putfield 30, 3) := by decide +kernel
theorem dX8_init_56 : decode cX8_init 56 = .ok (.aload_n 0, 1) := by decide +kernel
theorem dX8_init_57 : decode cX8_init 57 = .ok (.new 25, 3) := by decide +kernel
theorem dX8_init_60 : decode cX8_init 60 = .ok (.dup, 1) := by decide +kernel
theorem dX8_init_61 : decode cX8_init 61 = .ok (.aload_n 0, 1) := by decide +kernel
theorem dX8_init_62 : decode cX8_init 62 = .ok (.invokespecial 27, 3) := by decide +kernel
theorem dX8_init_65 : decode cX8_init 65 = .ok (.putfield 34, 3) := by decide +kernel
theorem dX8_init_68 : decode cX8_init 68 = .ok (.return_, 1) := by decide +kernel
theorem dX8_thrown_0 : decode cX8_thrown 0 = .ok (.aload_n 0, 1) := by decide +kernel
theorem dX8_thrown_1 : decode cX8_thrown 1 = .ok (.getfield 37, 3) := by decide +kernel
theorem dX8_thrown_4 : decode cX8_thrown 4 = .ok (.ireturn, 1) := by decide +kernel
theorem dX8_no_0 : decode cX8_no 0 = .ok (.aload_n 0, 1) := by decide +kernel
theorem dX8_no_1 : decode cX8_no 1 = .ok (.iload_n 1, 1) := by decide +kernel
theorem dX8_no_2 : decode cX8_no 2 = .ok (.putfield 37, 3) := by decide +kernel
theorem dX8_no_5 : decode cX8_no 5 = .ok (.iconst 0, 1) := by decide +kernel
theorem dX8_no_6 : decode cX8_no 6 = .ok (.ireturn, 1) := by decide +kernel
theorem dX8_isIn_0 : decode cX8_isIn 0 = .ok (.iload_n 0, 1) := by decide +kernel
theorem dX8_isIn_1 : decode cX8_isIn 1 = .ok (.iload_n 1, 1) := by decide +kernel
theorem dX8_isIn_2 : decode cX8_isIn 2 = .ok (.if_icmp .lt 12, 3) := by decide +kernel
theorem dX8_isIn_5 : decode cX8_isIn 5 = .ok (.iload_n 0, 1) := by decide +kernel
theorem dX8_isIn_6 : decode cX8_isIn 6 = .ok (.iload_n 2, 1) := by decide +kernel
theorem dX8_isIn_7 : decode cX8_isIn 7 = .ok (.if_icmp .gt 7, 3) := by decide +kernel
theorem dX8_isIn_10 : decode cX8_isIn 10 = .ok (.iconst 1, 1) := by decide +kernel
theorem dX8_isIn_11 : decode cX8_isIn 11 = .ok (.goto 4, 3) := by decide +kernel
theorem dX8_isIn_14 : decode cX8_isIn 14 = .ok (.iconst 0, 1) := by decide +kernel
theorem dX8_isIn_15 : decode cX8_isIn 15 = .ok (.ireturn, 1) := by decide +kernel
theorem dX8_isStation_0 : decode cX8_isStation 0 = .ok (.iload_n 1, 1) := by decide +kernel
theorem dX8_isStation_1 : decode cX8_isStation 1 = .ok (.iconst 0, 1) := by decide +kernel
theorem dX8_isStation_2 : decode cX8_isStation 2 = .ok (.aload_n 0, 1) := by decide +kernel
theorem dX8_isStation_3 : decode cX8_isStation 3 = .ok (.getfield 41, 3) := by decide +kernel
theorem dX8_isStation_6 : decode cX8_isStation 6 = .ok (.iconst 1, 1) := by decide +kernel
theorem dX8_isStation_7 : decode cX8_isStation 7 = .ok (.isub, 1) := by decide +kernel
theorem dX8_isStation_8 : decode cX8_isStation 8 = .ok (.invokestatic 44, 3) := by decide +kernel
theorem dX8_isStation_11 : decode cX8_isStation 11 = .ok (.ireturn, 1) := by decide +kernel
theorem dX8_isMember_0 : decode cX8_isMember 0 = .ok (.iload_n 1, 1) := by decide +kernel
theorem dX8_isMember_1 : decode cX8_isMember 1 = .ok (.iconst 0, 1) := by decide +kernel
theorem dX8_isMember_2 : decode cX8_isMember 2 = .ok (.aload_n 0, 1) := by decide +kernel
theorem dX8_isMember_3 : decode cX8_isMember 3 = .ok (.getfield 48, 3) := by decide +kernel
theorem dX8_isMember_6 : decode cX8_isMember 6 = .ok (.iconst 1, 1) := by decide +kernel
theorem dX8_isMember_7 : decode cX8_isMember 7 = .ok (.isub, 1) := by decide +kernel
theorem dX8_isMember_8 : decode cX8_isMember 8 = .ok (.invokestatic 44, 3) := by decide +kernel
theorem dX8_isMember_11 : decode cX8_isMember 11 = .ok (.ireturn, 1) := by decide +kernel
theorem dX8_isLine_0 : decode cX8_isLine 0 = .ok (.aload_n 0, 1) := by decide +kernel
theorem dX8_isLine_1 : decode cX8_isLine 1 = .ok (.iload_n 1, 1) := by decide +kernel
theorem dX8_isLine_2 : decode cX8_isLine 2 = .ok (.invokevirtual 51, 3) := by decide +kernel
theorem dX8_isLine_5 : decode cX8_isLine 5 = .ok (.ifCond .eq 26, 3) := by decide +kernel
theorem dX8_isLine_8 : decode cX8_isLine 8 = .ok (.iload_n 2, 1) := by decide +kernel
theorem dX8_isLine_9 : decode cX8_isLine 9 = .ok (.iconst 0, 1) := by decide +kernel
theorem dX8_isLine_10 : decode cX8_isLine 10 = .ok (.aload_n 0, 1) := by decide +kernel
theorem dX8_isLine_11 : decode cX8_isLine 11 = .ok (.getfield 30, 3) := by decide +kernel
theorem dX8_isLine_14 : decode cX8_isLine 14 = .ok (.getfield 55, 3) := by decide +kernel
theorem dX8_isLine_17 : decode cX8_isLine 17 = .ok (.iload_n 1, 1) := by decide +kernel
theorem dX8_isLine_18 : decode cX8_isLine 18 = .ok (.iaload, 1) := by decide +kernel
theorem dX8_isLine_19 : decode cX8_isLine 19 = .ok (.iconst 1, 1) := by decide +kernel
theorem dX8_isLine_20 : decode cX8_isLine 20 = .ok (.isub, 1) := by decide +kernel
theorem dX8_isLine_21 : decode cX8_isLine 21 = .ok (.invokestatic 44, 3) := by decide +kernel
theorem dX8_isLine_24 : decode cX8_isLine 24 = .ok (.ifCond .eq 7, 3) := by decide +kernel
theorem dX8_isLine_27 : decode cX8_isLine 27 = .ok (.iconst 1, 1) := by decide +kernel
theorem dX8_isLine_28 : decode cX8_isLine 28 = .ok (.goto 4, 3) := by decide +kernel
theorem dX8_isLine_31 : decode cX8_isLine 31 = .ok (.iconst 0, 1) := by decide +kernel
theorem dX8_isLine_32 : decode cX8_isLine 32 = .ok (.ireturn, 1) := by decide +kernel
theorem dX8_tuned_0 : decode cX8_tuned 0 = .ok (.ldc 58, 2) := by decide +kernel
theorem dX8_tuned_2 : decode cX8_tuned 2 = .ok (.iload_n 0, 1) := by decide +kernel
theorem dX8_tuned_3 : decode cX8_tuned 3 = .ok (.iload_n 1, 1) := by decide +kernel
theorem dX8_tuned_4 : decode cX8_tuned 4 = .ok (.iadd, 1) := by decide +kernel
theorem dX8_tuned_5 : decode cX8_tuned 5 = .ok (.idiv, 1) := by decide +kernel
theorem dX8_tuned_6 : decode cX8_tuned 6 = .ok (.ireturn, 1) := by decide +kernel
theorem dX8_width_0 : decode cX8_width 0 = .ok (.bipush 10, 2) := by decide +kernel
theorem dX8_width_2 : decode cX8_width 2 = .ok (.bipush 80, 2) := by decide +kernel
theorem dX8_width_4 : decode cX8_width 4 = .ok (.iload_n 0, 1) := by decide +kernel
theorem dX8_width_5 : decode cX8_width 5 = .ok (.iconst 3, 1) := by decide +kernel
theorem dX8_width_6 : decode cX8_width 6 = .ok (.idiv, 1) := by decide +kernel
theorem dX8_width_7 : decode cX8_width 7 = .ok (.isub, 1) := by decide +kernel
theorem dX8_width_8 : decode cX8_width 8 = .ok (.invokestatic 59, 3) := by decide +kernel
theorem dX8_width_11 : decode cX8_width 11 = .ok (.ireturn, 1) := by decide +kernel
theorem dX8_fading_0 : decode cX8_fading 0 = .ok (.iconst 4, 1) := by decide +kernel
theorem dX8_fading_1 : decode cX8_fading 1 = .ok (.bipush 6, 2) := by decide +kernel
theorem dX8_fading_3 : decode cX8_fading 3 = .ok (.iload_n 2, 1) := by decide +kernel
theorem dX8_fading_4 : decode cX8_fading 4 = .ok (.aload_n 0, 1) := by decide +kernel
theorem dX8_fading_5 : decode cX8_fading 5 = .ok (.getfield 9, 3) := by decide +kernel
theorem dX8_fading_8 : decode cX8_fading 8 = .ok (.bipush 6, 2) := by decide +kernel
theorem dX8_fading_10 : decode cX8_fading 10 = .ok (.iload_n 1, 1) := by decide +kernel
theorem dX8_fading_11 : decode cX8_fading 11 = .ok (.imul, 1) := by decide +kernel
theorem dX8_fading_12 : decode cX8_fading 12 = .ok (.iconst 5, 1) := by decide +kernel
theorem dX8_fading_13 : decode cX8_fading 13 = .ok (.iadd, 1) := by decide +kernel
theorem dX8_fading_14 : decode cX8_fading 14 = .ok (.iaload, 1) := by decide +kernel
theorem dX8_fading_15 : decode cX8_fading 15 = .ok (.iadd, 1) := by decide +kernel
theorem dX8_fading_16 : decode cX8_fading 16 = .ok (.bipush 12, 2) := by decide +kernel
theorem dX8_fading_18 : decode cX8_fading 18 = .ok (.irem, 1) := by decide +kernel
theorem dX8_fading_19 : decode cX8_fading 19 = .ok (.isub, 1) := by decide +kernel
theorem dX8_fading_20 : decode cX8_fading 20 = .ok (.invokestatic 65, 3) := by decide +kernel
theorem dX8_fading_23 : decode cX8_fading 23 = .ok (.iadd, 1) := by decide +kernel
theorem dX8_fading_24 : decode cX8_fading 24 = .ok (.ireturn, 1) := by decide +kernel
theorem dX8_onAir_0 : decode cX8_onAir 0 = .ok (.iconst 0, 1) := by decide +kernel
theorem dX8_onAir_1 : decode cX8_onAir 1 = .ok (.istore_n 2, 1) := by decide +kernel
theorem dX8_onAir_2 : decode cX8_onAir 2 = .ok (.iconst 0, 1) := by decide +kernel
theorem dX8_onAir_3 : decode cX8_onAir 3 = .ok (.istore_n 3, 1) := by decide +kernel
theorem dX8_onAir_4 : decode cX8_onAir 4 = .ok (.iload_n 3, 1) := by decide +kernel
theorem dX8_onAir_5 : decode cX8_onAir 5 = .ok (.aload_n 0, 1) := by decide +kernel
theorem dX8_onAir_6 : decode cX8_onAir 6 = .ok (.getfield 41, 3) := by decide +kernel
theorem dX8_onAir_9 : decode cX8_onAir 9 = .ok (.if_icmp .ge 48, 3) := by decide +kernel
theorem dX8_onAir_12 : decode cX8_onAir 12 = .ok (.iload_n 1, 1) := by decide +kernel
theorem dX8_onAir_13 : decode cX8_onAir 13 = .ok (.bipush 24, 2) := by decide +kernel
theorem dX8_onAir_15 : decode cX8_onAir 15 = .ok (.iadd, 1) := by decide +kernel
theorem dX8_onAir_16 : decode cX8_onAir 16 = .ok (.aload_n 0, 1) := by decide +kernel
theorem dX8_onAir_17 : decode cX8_onAir 17 = .ok (.getfield 9, 3) := by decide +kernel
theorem dX8_onAir_20 : decode cX8_onAir 20 = .ok (.bipush 6, 2) := by decide +kernel
theorem dX8_onAir_22 : decode cX8_onAir 22 = .ok (.iload_n 3, 1) := by decide +kernel
theorem dX8_onAir_23 : decode cX8_onAir 23 = .ok (.imul, 1) := by decide +kernel
theorem dX8_onAir_24 : decode cX8_onAir 24 = .ok (.iconst 3, 1) := by decide +kernel
theorem dX8_onAir_25 : decode cX8_onAir 25 = .ok (.iadd, 1) := by decide +kernel
theorem dX8_onAir_26 : decode cX8_onAir 26 = .ok (.iaload, 1) := by decide +kernel
theorem dX8_onAir_27 : decode cX8_onAir 27 = .ok (.isub, 1) := by decide +kernel
theorem dX8_onAir_28 : decode cX8_onAir 28 = .ok (.bipush 24, 2) := by decide +kernel
theorem dX8_onAir_30 : decode cX8_onAir 30 = .ok (.irem, 1) := by decide +kernel
theorem dX8_onAir_31 : decode cX8_onAir 31 = .ok (.aload_n 0, 1) := by decide +kernel
theorem dX8_onAir_32 : decode cX8_onAir 32 = .ok (.getfield 9, 3) := by decide +kernel
theorem dX8_onAir_35 : decode cX8_onAir 35 = .ok (.bipush 6, 2) := by decide +kernel
theorem dX8_onAir_37 : decode cX8_onAir 37 = .ok (.iload_n 3, 1) := by decide +kernel
theorem dX8_onAir_38 : decode cX8_onAir 38 = .ok (.imul, 1) := by decide +kernel
theorem dX8_onAir_39 : decode cX8_onAir 39 = .ok (.iconst 4, 1) := by decide +kernel
theorem dX8_onAir_40 : decode cX8_onAir 40 = .ok (.iadd, 1) := by decide +kernel
theorem dX8_onAir_41 : decode cX8_onAir 41 = .ok (.iaload, 1) := by decide +kernel
theorem dX8_onAir_42 : decode cX8_onAir 42 = .ok (.if_icmp .ge 9, 3) := by decide +kernel
theorem dX8_onAir_45 : decode cX8_onAir 45 = .ok (.iload_n 2, 1) := by decide +kernel
theorem dX8_onAir_46 : decode cX8_onAir 46 = .ok (.iconst 1, 1) := by decide +kernel
theorem dX8_onAir_47 : decode cX8_onAir 47 = .ok (.iload_n 3, 1) := by decide +kernel
theorem dX8_onAir_48 : decode cX8_onAir 48 = .ok (.ishl, 1) := by decide +kernel
theorem dX8_onAir_49 : decode cX8_onAir 49 = .ok (.ior, 1) := by decide +kernel
theorem dX8_onAir_50 : decode cX8_onAir 50 = .ok (.istore_n 2, 1) := by decide +kernel
theorem dX8_onAir_51 : decode cX8_onAir 51 = .ok (.iinc 3 1, 3) := by decide +kernel
theorem dX8_onAir_54 : decode cX8_onAir 54 = .ok (.goto (-50), 3) := by decide +kernel
theorem dX8_onAir_57 : decode cX8_onAir 57 = .ok (.iload_n 2, 1) := by decide +kernel
theorem dX8_onAir_58 : decode cX8_onAir 58 = .ok (.ireturn, 1) := by decide +kernel
theorem dX8_reach_0 : decode cX8_reach 0 = .ok (.iload 4, 2) := by decide +kernel
theorem dX8_reach_2 : decode cX8_reach 2 = .ok (.invokestatic 69, 3) := by decide +kernel
theorem dX8_reach_5 : decode cX8_reach 5 = .ok (.istore 7, 2) := by decide +kernel
theorem dX8_reach_7 : decode cX8_reach 7 = .ok (.aload_n 0, 1) := by decide +kernel
theorem dX8_reach_8 : decode cX8_reach 8 = .ok (.getfield 9, 3) := by decide +kernel
theorem dX8_reach_11 : decode cX8_reach 11 = .ok (.bipush 6, 2) := by decide +kernel
theorem dX8_reach_13 : decode cX8_reach 13 = .ok (.iload_n 2, 1) := by decide +kernel
theorem dX8_reach_14 : decode cX8_reach 14 = .ok (.imul, 1) := by decide +kernel
theorem dX8_reach_15 : decode cX8_reach 15 = .ok (.iaload, 1) := by decide +kernel
theorem dX8_reach_16 : decode cX8_reach 16 = .ok (.iload 4, 2) := by decide +kernel
theorem dX8_reach_18 : decode cX8_reach 18 = .ok (.iload 5, 2) := by decide +kernel
theorem dX8_reach_20 : decode cX8_reach 20 = .ok (.invokestatic 72, 3) := by decide +kernel
theorem dX8_reach_23 : decode cX8_reach 23 = .ok (.isub, 1) := by decide +kernel
theorem dX8_reach_24 : decode cX8_reach 24 = .ok (.invokestatic 65, 3) := by decide +kernel
theorem dX8_reach_27 : decode cX8_reach 27 = .ok (.istore 8, 2) := by decide +kernel
theorem dX8_reach_29 : decode cX8_reach 29 = .ok (.iload 8, 2) := by decide +kernel
theorem dX8_reach_31 : decode cX8_reach 31 = .ok (.iload 7, 2) := by decide +kernel
theorem dX8_reach_33 : decode cX8_reach 33 = .ok (.if_icmp .lt 5, 3) := by decide +kernel
theorem dX8_reach_36 : decode cX8_reach 36 = .ok (.iconst 0, 1) := by decide +kernel
theorem dX8_reach_37 : decode cX8_reach 37 = .ok (.ireturn, 1) := by decide +kernel
theorem dX8_reach_38 : decode cX8_reach 38 = .ok (.aload_n 0, 1) := by decide +kernel
theorem dX8_reach_39 : decode cX8_reach 39 = .ok (.getfield 9, 3) := by decide +kernel
theorem dX8_reach_42 : decode cX8_reach 42 = .ok (.bipush 6, 2) := by decide +kernel
theorem dX8_reach_44 : decode cX8_reach 44 = .ok (.iload_n 2, 1) := by decide +kernel
theorem dX8_reach_45 : decode cX8_reach 45 = .ok (.imul, 1) := by decide +kernel
theorem dX8_reach_46 : decode cX8_reach 46 = .ok (.iconst 1, 1) := by decide +kernel
theorem dX8_reach_47 : decode cX8_reach 47 = .ok (.iadd, 1) := by decide +kernel
theorem dX8_reach_48 : decode cX8_reach 48 = .ok (.iaload, 1) := by decide +kernel
theorem dX8_reach_49 : decode cX8_reach 49 = .ok (.aload_n 0, 1) := by decide +kernel
theorem dX8_reach_50 : decode cX8_reach 50 = .ok (.iload_n 2, 1) := by decide +kernel
theorem dX8_reach_51 : decode cX8_reach 51 = .ok (.iload_n 3, 1) := by decide +kernel
theorem dX8_reach_52 : decode cX8_reach 52 = .ok (.invokevirtual 75, 3) := by decide +kernel
theorem dX8_reach_55 : decode cX8_reach 55 = .ok (.imul, 1) := by decide +kernel
theorem dX8_reach_56 : decode cX8_reach 56 = .ok (.aload_n 0, 1) := by decide +kernel
theorem dX8_reach_57 : decode cX8_reach 57 = .ok (.getfield 19, 3) := by decide +kernel
theorem dX8_reach_60 : decode cX8_reach 60 = .ok (.iload_n 1, 1) := by decide +kernel
theorem dX8_reach_61 : decode cX8_reach 61 = .ok (.iaload, 1) := by decide +kernel
theorem dX8_reach_62 : decode cX8_reach 62 = .ok (.imul, 1) := by decide +kernel
theorem dX8_reach_63 : decode cX8_reach 63 = .ok (.bipush 10, 2) := by decide +kernel
theorem dX8_reach_65 : decode cX8_reach 65 = .ok (.aload_n 0, 1) := by decide +kernel
theorem dX8_reach_66 : decode cX8_reach 66 = .ok (.getfield 9, 3) := by decide +kernel
theorem dX8_reach_69 : decode cX8_reach 69 = .ok (.bipush 6, 2) := by decide +kernel
theorem dX8_reach_71 : decode cX8_reach 71 = .ok (.iload_n 2, 1) := by decide +kernel
theorem dX8_reach_72 : decode cX8_reach 72 = .ok (.imul, 1) := by decide +kernel
theorem dX8_reach_73 : decode cX8_reach 73 = .ok (.iconst 2, 1) := by decide +kernel
theorem dX8_reach_74 : decode cX8_reach 74 = .ok (.iadd, 1) := by decide +kernel
theorem dX8_reach_75 : decode cX8_reach 75 = .ok (.iaload, 1) := by decide +kernel
theorem dX8_reach_76 : decode cX8_reach 76 = .ok (.imul, 1) := by decide +kernel
theorem dX8_reach_77 : decode cX8_reach 77 = .ok (.idiv, 1) := by decide +kernel
theorem dX8_reach_78 : decode cX8_reach 78 = .ok (.istore 9, 2) := by decide +kernel
theorem dX8_reach_80 : decode cX8_reach 80 = .ok (.iload 9, 2) := by decide +kernel
theorem dX8_reach_82 : decode cX8_reach 82 = .ok (.iload 7, 2) := by decide +kernel
theorem dX8_reach_84 : decode cX8_reach 84 = .ok (.iload 8, 2) := by decide +kernel
theorem dX8_reach_86 : decode cX8_reach 86 = .ok (.isub, 1) := by decide +kernel
theorem dX8_reach_87 : decode cX8_reach 87 = .ok (.imul, 1) := by decide +kernel
theorem dX8_reach_88 : decode cX8_reach 88 = .ok (.iload 7, 2) := by decide +kernel
theorem dX8_reach_90 : decode cX8_reach 90 = .ok (.idiv, 1) := by decide +kernel
theorem dX8_reach_91 : decode cX8_reach 91 = .ok (.istore 9, 2) := by decide +kernel
theorem dX8_reach_93 : decode cX8_reach 93 = .ok (.iload 9, 2) := by decide +kernel
theorem dX8_reach_95 : decode cX8_reach 95 = .ok (.iconst 1, 1) := by decide +kernel
theorem dX8_reach_96 : decode cX8_reach 96 = .ok (.iload 6, 2) := by decide +kernel
theorem dX8_reach_98 : decode cX8_reach 98 = .ok (.iadd, 1) := by decide +kernel
theorem dX8_reach_99 : decode cX8_reach 99 = .ok (.imul, 1) := by decide +kernel
theorem dX8_reach_100 : decode cX8_reach 100 = .ok (.bipush 10, 2) := by decide +kernel
theorem dX8_reach_102 : decode cX8_reach 102 = .ok (.idiv, 1) := by decide +kernel
theorem dX8_reach_103 : decode cX8_reach 103 = .ok (.ireturn, 1) := by decide +kernel
theorem dX8_heard_0 : decode cX8_heard 0 = .ok (.iconst (-1), 1) := by decide +kernel
theorem dX8_heard_1 : decode cX8_heard 1 = .ok (.istore 7, 2) := by decide +kernel
theorem dX8_heard_3 : decode cX8_heard 3 = .ok (.iconst 0, 1) := by decide +kernel
theorem dX8_heard_4 : decode cX8_heard 4 = .ok (.istore 8, 2) := by decide +kernel
theorem dX8_heard_6 : decode cX8_heard 6 = .ok (.iconst 0, 1) := by decide +kernel
theorem dX8_heard_7 : decode cX8_heard 7 = .ok (.istore 9, 2) := by decide +kernel
theorem dX8_heard_9 : decode cX8_heard 9 = .ok (.iconst 0, 1) := by decide +kernel
theorem dX8_heard_10 : decode cX8_heard 10 = .ok (.istore 10, 2) := by decide +kernel
theorem dX8_heard_12 : decode cX8_heard 12 = .ok (.iconst 0, 1) := by decide +kernel
theorem dX8_heard_13 : decode cX8_heard 13 = .ok (.istore 11, 2) := by decide +kernel
theorem dX8_heard_15 : decode cX8_heard 15 = .ok (.iload 11, 2) := by decide +kernel
theorem dX8_heard_17 : decode cX8_heard 17 = .ok (.aload_n 0, 1) := by decide +kernel
theorem dX8_heard_18 : decode cX8_heard 18 = .ok (.getfield 41, 3) := by decide +kernel
theorem dX8_heard_21 : decode cX8_heard 21 = .ok (.if_icmp .ge 80, 3) := by decide +kernel
theorem dX8_heard_24 : decode cX8_heard 24 = .ok (.iload 6, 2) := by decide +kernel
theorem dX8_heard_26 : decode cX8_heard 26 = .ok (.iload 11, 2) := by decide +kernel
theorem dX8_heard_28 : decode cX8_heard 28 = .ok (.ishr, 1) := by decide +kernel
theorem dX8_heard_29 : decode cX8_heard 29 = .ok (.iconst 1, 1) := by decide +kernel
theorem dX8_heard_30 : decode cX8_heard 30 = .ok (.iand, 1) := by decide +kernel
theorem dX8_heard_31 : decode cX8_heard 31 = .ok (.ifCond .ne 7, 3) := by decide +kernel
theorem dX8_heard_34 : decode cX8_heard 34 = .ok (.iconst 0, 1) := by decide +kernel
theorem dX8_heard_35 : decode cX8_heard 35 = .ok (.goto 16, 3) := by decide +kernel
theorem dX8_heard_38 : decode cX8_heard 38 = .ok (.aload_n 0, 1) := by decide +kernel
theorem dX8_heard_39 : decode cX8_heard 39 = .ok (.iload_n 1, 1) := by decide +kernel
theorem dX8_heard_40 : decode cX8_heard 40 = .ok (.iload 11, 2) := by decide +kernel
theorem dX8_heard_42 : decode cX8_heard 42 = .ok (.iload_n 2, 1) := by decide +kernel
theorem dX8_heard_43 : decode cX8_heard 43 = .ok (.iload_n 3, 1) := by decide +kernel
theorem dX8_heard_44 : decode cX8_heard 44 = .ok (.iload 4, 2) := by decide +kernel
theorem dX8_heard_46 : decode cX8_heard 46 = .ok (.iload 5, 2) := by decide +kernel
theorem dX8_heard_48 : decode cX8_heard 48 = .ok (.invokevirtual 78, 3) := by decide +kernel
theorem dX8_heard_51 : decode cX8_heard 51 = .ok (.istore 12, 2) := by decide +kernel
theorem dX8_heard_53 : decode cX8_heard 53 = .ok (.iload 12, 2) := by decide +kernel
theorem dX8_heard_55 : decode cX8_heard 55 = .ok (.ifCond .ne 6, 3) := by decide +kernel
theorem dX8_heard_58 : decode cX8_heard 58 = .ok (.goto 37, 3) := by decide +kernel
theorem dX8_heard_61 : decode cX8_heard 61 = .ok (.iinc 10 1, 3) := by decide +kernel
theorem dX8_heard_64 : decode cX8_heard 64 = .ok (.iload 12, 2) := by decide +kernel
theorem dX8_heard_66 : decode cX8_heard 66 = .ok (.iload 8, 2) := by decide +kernel
theorem dX8_heard_68 : decode cX8_heard 68 = .ok (.if_icmp .le 18, 3) := by decide +kernel
theorem dX8_heard_71 : decode cX8_heard 71 = .ok (.iload 8, 2) := by decide +kernel
theorem dX8_heard_73 : decode cX8_heard 73 = .ok (.istore 9, 2) := by decide +kernel
theorem dX8_heard_75 : decode cX8_heard 75 = .ok (.iload 12, 2) := by decide +kernel
theorem dX8_heard_77 : decode cX8_heard 77 = .ok (.istore 8, 2) := by decide +kernel
theorem dX8_heard_79 : decode cX8_heard 79 = .ok (.iload 11, 2) := by decide +kernel
theorem dX8_heard_81 : decode cX8_heard 81 = .ok (.istore 7, 2) := by decide +kernel
theorem dX8_heard_83 : decode cX8_heard 83 = .ok (.goto 12, 3) := by decide +kernel
theorem dX8_heard_86 : decode cX8_heard 86 = .ok (.iload 9, 2) := by decide +kernel
theorem dX8_heard_88 : decode cX8_heard 88 = .ok (.iload 12, 2) := by decide +kernel
theorem dX8_heard_90 : decode cX8_heard 90 = .ok (.invokestatic 59, 3) := by decide +kernel
theorem dX8_heard_93 : decode cX8_heard 93 = .ok (.istore 9, 2) := by decide +kernel
theorem dX8_heard_95 : decode cX8_heard 95 = .ok (.iinc 11 1, 3) := by decide +kernel
theorem dX8_heard_98 : decode cX8_heard 98 = .ok (.goto (-83), 3) := by decide +kernel
theorem dX8_heard_101 : decode cX8_heard 101 = .ok (.iload 8, 2) := by decide +kernel
theorem dX8_heard_103 : decode cX8_heard 103 = .ok (.iconst 5, 1) := by decide +kernel
theorem dX8_heard_104 : decode cX8_heard 104 = .ok (.if_icmp .lt 15, 3) := by decide +kernel
theorem dX8_heard_107 : decode cX8_heard 107 = .ok (.iconst 2, 1) := by decide +kernel
theorem dX8_heard_108 : decode cX8_heard 108 = .ok (.iload 9, 2) := by decide +kernel
theorem dX8_heard_110 : decode cX8_heard 110 = .ok (.imul, 1) := by decide +kernel
theorem dX8_heard_111 : decode cX8_heard 111 = .ok (.iload 8, 2) := by decide +kernel
theorem dX8_heard_113 : decode cX8_heard 113 = .ok (.if_icmp .gt 6, 3) := by decide +kernel
theorem dX8_heard_116 : decode cX8_heard 116 = .ok (.iload 7, 2) := by decide +kernel
theorem dX8_heard_118 : decode cX8_heard 118 = .ok (.ireturn, 1) := by decide +kernel
theorem dX8_heard_119 : decode cX8_heard 119 = .ok (.iload 10, 2) := by decide +kernel
theorem dX8_heard_121 : decode cX8_heard 121 = .ok (.iconst 1, 1) := by decide +kernel
theorem dX8_heard_122 : decode cX8_heard 122 = .ok (.if_icmp .le 8, 3) := by decide +kernel
theorem dX8_heard_125 : decode cX8_heard 125 = .ok (.bipush (-2), 2) := by decide +kernel
theorem dX8_heard_127 : decode cX8_heard 127 = .ok (.goto 4, 3) := by decide +kernel
theorem dX8_heard_130 : decode cX8_heard 130 = .ok (.iconst (-1), 1) := by decide +kernel
theorem dX8_heard_131 : decode cX8_heard 131 = .ok (.ireturn, 1) := by decide +kernel
theorem dX8_addStation_0 : decode cX8_addStation 0 = .ok (.aload_n 0, 1) := by decide +kernel
theorem dX8_addStation_1 : decode cX8_addStation 1 = .ok (.iconst 0, 1) := by decide +kernel
theorem dX8_addStation_2 : decode cX8_addStation 2 = .ok (.putfield 37, 3) := by decide +kernel
theorem dX8_addStation_5 : decode cX8_addStation 5 = .ok (.iload_n 1, 1) := by decide +kernel
theorem dX8_addStation_6 : decode cX8_addStation 6 = .ok (.sipush 300, 3) := by decide +kernel
theorem dX8_addStation_9 : decode cX8_addStation 9 = .ok (.sipush 3000, 3) := by decide +kernel
theorem dX8_addStation_12 : decode cX8_addStation 12 = .ok (.invokestatic 44, 3) := by decide +kernel
theorem dX8_addStation_15 : decode cX8_addStation 15 = .ok (.ifCond .eq 56, 3) := by decide +kernel
theorem dX8_addStation_18 : decode cX8_addStation 18 = .ok (.iload_n 2, 1) := by decide +kernel
theorem dX8_addStation_19 : decode cX8_addStation 19 = .ok (.iconst 1, 1) := by decide +kernel
theorem dX8_addStation_20 : decode cX8_addStation 20 = .ok (.bipush 100, 2) := by decide +kernel
theorem dX8_addStation_22 : decode cX8_addStation 22 = .ok (.invokestatic 44, 3) := by decide +kernel
theorem dX8_addStation_25 : decode cX8_addStation 25 = .ok (.ifCond .eq 46, 3) := by decide +kernel
theorem dX8_addStation_28 : decode cX8_addStation 28 = .ok (.iload_n 3, 1) := by decide +kernel
theorem dX8_addStation_29 : decode cX8_addStation 29 = .ok (.iconst 1, 1) := by decide +kernel
theorem dX8_addStation_30 : decode cX8_addStation 30 = .ok (.bipush 50, 2) := by decide +kernel
theorem dX8_addStation_32 : decode cX8_addStation 32 = .ok (.invokestatic 44, 3) := by decide +kernel
theorem dX8_addStation_35 : decode cX8_addStation 35 = .ok (.ifCond .eq 36, 3) := by decide +kernel
theorem dX8_addStation_38 : decode cX8_addStation 38 = .ok (.iload 4, 2) := by decide +kernel
theorem dX8_addStation_40 : decode cX8_addStation 40 = .ok (.iconst 0, 1) := by decide +kernel
theorem dX8_addStation_41 : decode cX8_addStation 41 = .ok (.bipush 23, 2) := by decide +kernel
theorem dX8_addStation_43 : decode cX8_addStation 43 = .ok (.invokestatic 44, 3) := by decide +kernel
theorem dX8_addStation_46 : decode cX8_addStation 46 = .ok (.ifCond .eq 25, 3) := by decide +kernel
theorem dX8_addStation_49 : decode cX8_addStation 49 = .ok (.iload 5, 2) := by decide +kernel
theorem dX8_addStation_51 : decode cX8_addStation 51 = .ok (.iconst 1, 1) := by decide +kernel
theorem dX8_addStation_52 : decode cX8_addStation 52 = .ok (.bipush 24, 2) := by decide +kernel
theorem dX8_addStation_54 : decode cX8_addStation 54 = .ok (.invokestatic 44, 3) := by decide +kernel
theorem dX8_addStation_57 : decode cX8_addStation 57 = .ok (.ifCond .eq 14, 3) := by decide +kernel
theorem dX8_addStation_60 : decode cX8_addStation 60 = .ok (.iload 6, 2) := by decide +kernel
theorem dX8_addStation_62 : decode cX8_addStation 62 = .ok (.iconst 0, 1) := by decide +kernel
theorem dX8_addStation_63 : decode cX8_addStation 63 = .ok (.bipush 11, 2) := by decide +kernel
theorem dX8_addStation_65 : decode cX8_addStation 65 = .ok (.invokestatic 44, 3) := by decide +kernel
theorem dX8_addStation_68 : decode cX8_addStation 68 = .ok (.ifCond .ne 9, 3) := by decide +kernel
theorem dX8_addStation_71 : decode cX8_addStation 71 = .ok (.aload_n 0, 1) := by decide +kernel
theorem dX8_addStation_72 : decode cX8_addStation 72 = .ok (.iconst 1, 1) := by decide +kernel
theorem dX8_addStation_73 : decode cX8_addStation 73 = .ok (.invokevirtual 82, 3) := by decide +kernel
theorem dX8_addStation_76 : decode cX8_addStation 76 = .ok (.ireturn, 1) := by decide +kernel
theorem dX8_addStation_77 : decode cX8_addStation 77 = .ok (.aload_n 0, 1) := by decide +kernel
theorem dX8_addStation_78 : decode cX8_addStation 78 = .ok (.getfield 41, 3) := by decide +kernel
theorem dX8_addStation_81 : decode cX8_addStation 81 = .ok (.bipush 12, 2) := by decide +kernel
theorem dX8_addStation_83 : decode cX8_addStation 83 = .ok (.if_icmp .ne 9, 3) := by decide +kernel
theorem dX8_addStation_86 : decode cX8_addStation 86 = .ok (.aload_n 0, 1) := by decide +kernel
theorem dX8_addStation_87 : decode cX8_addStation 87 = .ok (.iconst 2, 1) := by decide +kernel
theorem dX8_addStation_88 : decode cX8_addStation 88 = .ok (.invokevirtual 82, 3) := by decide +kernel
theorem dX8_addStation_91 : decode cX8_addStation 91 = .ok (.ireturn, 1) := by decide +kernel
theorem dX8_addStation_92 : decode cX8_addStation 92 = .ok (.bipush 6, 2) := by decide +kernel
theorem dX8_addStation_94 : decode cX8_addStation 94 = .ok (.newarray .int, 2) := by decide +kernel
theorem dX8_addStation_96 : decode cX8_addStation 96 = .ok (.dup, 1) := by decide +kernel
theorem dX8_addStation_97 : decode cX8_addStation 97 = .ok (.iconst 0, 1) := by decide +kernel
theorem dX8_addStation_98 : decode cX8_addStation 98 = .ok (.iload_n 1, 1) := by decide +kernel
theorem dX8_addStation_99 : decode cX8_addStation 99 = .ok (.iastore, 1) := by decide +kernel
theorem dX8_addStation_100 : decode cX8_addStation 100 = .ok (.dup, 1) := by decide +kernel
theorem dX8_addStation_101 : decode cX8_addStation 101 = .ok (.iconst 1, 1) := by decide +kernel
theorem dX8_addStation_102 : decode cX8_addStation 102 = .ok (.iload_n 2, 1) := by decide +kernel
theorem dX8_addStation_103 : decode cX8_addStation 103 = .ok (.iastore, 1) := by decide +kernel
theorem dX8_addStation_104 : decode cX8_addStation 104 = .ok (.dup, 1) := by decide +kernel
theorem dX8_addStation_105 : decode cX8_addStation 105 = .ok (.iconst 2, 1) := by decide +kernel
theorem dX8_addStation_106 : decode cX8_addStation 106 = .ok (.iload_n 3, 1) := by decide +kernel
theorem dX8_addStation_107 : decode cX8_addStation 107 = .ok (.iastore, 1) := by decide +kernel
theorem dX8_addStation_108 : decode cX8_addStation 108 = .ok (.dup, 1) := by decide +kernel
theorem dX8_addStation_109 : decode cX8_addStation 109 = .ok (.iconst 3, 1) := by decide +kernel
theorem dX8_addStation_110 : decode cX8_addStation 110 = .ok (.iload 4, 2) := by decide +kernel
theorem dX8_addStation_112 : decode cX8_addStation 112 = .ok (.iastore, 1) := by decide +kernel
theorem dX8_addStation_113 : decode cX8_addStation 113 = .ok (.dup, 1) := by decide +kernel
theorem dX8_addStation_114 : decode cX8_addStation 114 = .ok (.iconst 4, 1) := by decide +kernel
theorem dX8_addStation_115 : decode cX8_addStation 115 = .ok (.iload 5, 2) := by decide +kernel
theorem dX8_addStation_117 : decode cX8_addStation 117 = .ok (.iastore, 1) := by decide +kernel
theorem dX8_addStation_118 : decode cX8_addStation 118 = .ok (.dup, 1) := by decide +kernel
theorem dX8_addStation_119 : decode cX8_addStation 119 = .ok (.iconst 5, 1) := by decide +kernel
theorem dX8_addStation_120 : decode cX8_addStation 120 = .ok (.iload 6, 2) := by decide +kernel
theorem dX8_addStation_122 : decode cX8_addStation 122 = .ok (.iastore, 1) := by decide +kernel
theorem dX8_addStation_123 : decode cX8_addStation 123 = .ok (.astore 7, 2) := by decide +kernel
theorem dX8_addStation_125 : decode cX8_addStation 125 = .ok (.aload 7, 2) := by decide +kernel
theorem dX8_addStation_127 : decode cX8_addStation 127 = .ok (.iconst 0, 1) := by decide +kernel
theorem dX8_addStation_128 : decode cX8_addStation 128 = .ok (.aload_n 0, 1) := by decide +kernel
theorem dX8_addStation_129 : decode cX8_addStation 129 = .ok (.getfield 9, 3) := by decide +kernel
theorem dX8_addStation_132 : decode cX8_addStation 132 = .ok (.bipush 6, 2) := by decide +kernel
theorem dX8_addStation_134 : decode cX8_addStation 134 = .ok (.aload_n 0, 1) := by decide +kernel
theorem dX8_addStation_135 : decode cX8_addStation 135 = .ok (.getfield 41, 3) := by decide +kernel
theorem dX8_addStation_138 : decode cX8_addStation 138 = .ok (.imul, 1) := by decide +kernel
theorem dX8_addStation_139 : decode cX8_addStation 139 = .ok (.bipush 6, 2) := by decide +kernel
theorem dX8_addStation_141 : decode cX8_addStation 141 = .ok (.invokestatic 85, 3) := by decide +kernel
theorem dX8_addStation_144 : decode cX8_addStation 144 = .ok (.aload_n 0, 1) := by decide +kernel
theorem dX8_addStation_145 : decode cX8_addStation 145 = .ok (.dup, 1) := by decide +kernel
theorem dX8_addStation_146 : decode cX8_addStation 146 = .ok (.getfield 41, 3) := by decide +kernel
theorem dX8_addStation_149 : decode cX8_addStation 149 = .ok (.iconst 1, 1) := by decide +kernel
theorem dX8_addStation_150 : decode cX8_addStation 150 = .ok (.iadd, 1) := by decide +kernel
theorem dX8_addStation_151 : decode cX8_addStation 151 = .ok (.putfield 41, 3) := by decide +kernel
theorem dX8_addStation_154 : decode cX8_addStation 154 = .ok (.aload_n 0, 1) := by decide +kernel
theorem dX8_addStation_155 : decode cX8_addStation 155 = .ok (.getfield 41, 3) := by decide +kernel
theorem dX8_addStation_158 : decode cX8_addStation 158 = .ok (.iconst 1, 1) := by decide +kernel
theorem dX8_addStation_159 : decode cX8_addStation 159 = .ok (.isub, 1) := by decide +kernel
theorem dX8_addStation_160 : decode cX8_addStation 160 = .ok (.ireturn, 1) := by decide +kernel
theorem dX8_join_0 : decode cX8_join 0 = .ok (.aload_n 0, 1) := by decide +kernel
theorem dX8_join_1 : decode cX8_join 1 = .ok (.iconst 0, 1) := by decide +kernel
theorem dX8_join_2 : decode cX8_join 2 = .ok (.putfield 37, 3) := by decide +kernel
theorem dX8_join_5 : decode cX8_join 5 = .ok (.iload_n 1, 1) := by decide +kernel
theorem dX8_join_6 : decode cX8_join 6 = .ok (.bipush 20, 2) := by decide +kernel
theorem dX8_join_8 : decode cX8_join 8 = .ok (.sipush 200, 3) := by decide +kernel
theorem dX8_join_11 : decode cX8_join 11 = .ok (.invokestatic 44, 3) := by decide +kernel
theorem dX8_join_14 : decode cX8_join 14 = .ok (.ifCond .eq 13, 3) := by decide +kernel
theorem dX8_join_17 : decode cX8_join 17 = .ok (.iload_n 2, 1) := by decide +kernel
theorem dX8_join_18 : decode cX8_join 18 = .ok (.iconst 1, 1) := by decide +kernel
theorem dX8_join_19 : decode cX8_join 19 = .ok (.bipush 60, 2) := by decide +kernel
theorem dX8_join_21 : decode cX8_join 21 = .ok (.invokestatic 44, 3) := by decide +kernel
theorem dX8_join_24 : decode cX8_join 24 = .ok (.ifCond .ne 9, 3) := by decide +kernel
theorem dX8_join_27 : decode cX8_join 27 = .ok (.aload_n 0, 1) := by decide +kernel
theorem dX8_join_28 : decode cX8_join 28 = .ok (.iconst 1, 1) := by decide +kernel
theorem dX8_join_29 : decode cX8_join 29 = .ok (.invokevirtual 82, 3) := by decide +kernel
theorem dX8_join_32 : decode cX8_join 32 = .ok (.ireturn, 1) := by decide +kernel
theorem dX8_join_33 : decode cX8_join 33 = .ok (.aload_n 0, 1) := by decide +kernel
theorem dX8_join_34 : decode cX8_join 34 = .ok (.getfield 48, 3) := by decide +kernel
theorem dX8_join_37 : decode cX8_join 37 = .ok (.bipush 8, 2) := by decide +kernel
theorem dX8_join_39 : decode cX8_join 39 = .ok (.if_icmp .ne 9, 3) := by decide +kernel
theorem dX8_join_42 : decode cX8_join 42 = .ok (.aload_n 0, 1) := by decide +kernel
theorem dX8_join_43 : decode cX8_join 43 = .ok (.iconst 2, 1) := by decide +kernel
theorem dX8_join_44 : decode cX8_join 44 = .ok (.invokevirtual 82, 3) := by decide +kernel
theorem dX8_join_47 : decode cX8_join 47 = .ok (.ireturn, 1) := by decide +kernel
theorem dX8_join_48 : decode cX8_join 48 = .ok (.aload_n 0, 1) := by decide +kernel
theorem dX8_join_49 : decode cX8_join 49 = .ok (.getfield 13, 3) := by decide +kernel
theorem dX8_join_52 : decode cX8_join 52 = .ok (.aload_n 0, 1) := by decide +kernel
theorem dX8_join_53 : decode cX8_join 53 = .ok (.getfield 48, 3) := by decide +kernel
theorem dX8_join_56 : decode cX8_join 56 = .ok (.iload_n 1, 1) := by decide +kernel
theorem dX8_join_57 : decode cX8_join 57 = .ok (.iastore, 1) := by decide +kernel
theorem dX8_join_58 : decode cX8_join 58 = .ok (.aload_n 0, 1) := by decide +kernel
theorem dX8_join_59 : decode cX8_join 59 = .ok (.getfield 19, 3) := by decide +kernel
theorem dX8_join_62 : decode cX8_join 62 = .ok (.aload_n 0, 1) := by decide +kernel
theorem dX8_join_63 : decode cX8_join 63 = .ok (.getfield 48, 3) := by decide +kernel
theorem dX8_join_66 : decode cX8_join 66 = .ok (.iload_n 2, 1) := by decide +kernel
theorem dX8_join_67 : decode cX8_join 67 = .ok (.iastore, 1) := by decide +kernel
theorem dX8_join_68 : decode cX8_join 68 = .ok (.aload_n 0, 1) := by decide +kernel
theorem dX8_join_69 : decode cX8_join 69 = .ok (.getfield 22, 3) := by decide +kernel
theorem dX8_join_72 : decode cX8_join 72 = .ok (.aload_n 0, 1) := by decide +kernel
theorem dX8_join_73 : decode cX8_join 73 = .ok (.getfield 48, 3) := by decide +kernel
theorem dX8_join_76 : decode cX8_join 76 = .ok (.iconst 1, 1) := by decide +kernel
theorem dX8_join_77 : decode cX8_join 77 = .ok (.iastore, 1) := by decide +kernel
theorem dX8_join_78 : decode cX8_join 78 = .ok (.aload_n 0, 1) := by decide +kernel
theorem dX8_join_79 : decode cX8_join 79 = .ok (.getfield 30, 3) := by decide +kernel
theorem dX8_join_82 : decode cX8_join 82 = .ok (.getfield 91, 3) := by decide +kernel
theorem dX8_join_85 : decode cX8_join 85 = .ok (.aload_n 0, 1) := by decide +kernel
theorem dX8_join_86 : decode cX8_join 86 = .ok (.getfield 48, 3) := by decide +kernel
theorem dX8_join_89 : decode cX8_join 89 = .ok (.bipush 9, 2) := by decide +kernel
theorem dX8_join_91 : decode cX8_join 91 = .ok (.iastore, 1) := by decide +kernel
theorem dX8_join_92 : decode cX8_join 92 = .ok (.aload_n 0, 1) := by decide +kernel
theorem dX8_join_93 : decode cX8_join 93 = .ok (.dup, 1) := by decide +kernel
theorem dX8_join_94 : decode cX8_join 94 = .ok (.getfield 48, 3) := by decide +kernel
theorem dX8_join_97 : decode cX8_join 97 = .ok (.iconst 1, 1) := by decide +kernel
theorem dX8_join_98 : decode cX8_join 98 = .ok (.iadd, 1) := by decide +kernel
theorem dX8_join_99 : decode cX8_join 99 = .ok (.putfield 48, 3) := by decide +kernel
theorem dX8_join_102 : decode cX8_join 102 = .ok (.aload_n 0, 1) := by decide +kernel
theorem dX8_join_103 : decode cX8_join 103 = .ok (.getfield 48, 3) := by decide +kernel
theorem dX8_join_106 : decode cX8_join 106 = .ok (.iconst 1, 1) := by decide +kernel
theorem dX8_join_107 : decode cX8_join 107 = .ok (.isub, 1) := by decide +kernel
theorem dX8_join_108 : decode cX8_join 108 = .ok (.ireturn, 1) := by decide +kernel
theorem dX8_turn_0 : decode cX8_turn 0 = .ok (.aload_n 0, 1) := by decide +kernel
theorem dX8_turn_1 : decode cX8_turn 1 = .ok (.iconst 0, 1) := by decide +kernel
theorem dX8_turn_2 : decode cX8_turn 2 = .ok (.putfield 37, 3) := by decide +kernel
theorem dX8_turn_5 : decode cX8_turn 5 = .ok (.aload_n 0, 1) := by decide +kernel
theorem dX8_turn_6 : decode cX8_turn 6 = .ok (.iload_n 1, 1) := by decide +kernel
theorem dX8_turn_7 : decode cX8_turn 7 = .ok (.invokevirtual 51, 3) := by decide +kernel
theorem dX8_turn_10 : decode cX8_turn 10 = .ok (.ifCond .ne 9, 3) := by decide +kernel
theorem dX8_turn_13 : decode cX8_turn 13 = .ok (.aload_n 0, 1) := by decide +kernel
theorem dX8_turn_14 : decode cX8_turn 14 = .ok (.iconst 1, 1) := by decide +kernel
theorem dX8_turn_15 : decode cX8_turn 15 = .ok (.invokevirtual 82, 3) := by decide +kernel
theorem dX8_turn_18 : decode cX8_turn 18 = .ok (.ireturn, 1) := by decide +kernel
theorem dX8_turn_19 : decode cX8_turn 19 = .ok (.iload_n 2, 1) := by decide +kernel
theorem dX8_turn_20 : decode cX8_turn 20 = .ok (.iconst 0, 1) := by decide +kernel
theorem dX8_turn_21 : decode cX8_turn 21 = .ok (.bipush 100, 2) := by decide +kernel
theorem dX8_turn_23 : decode cX8_turn 23 = .ok (.invokestatic 44, 3) := by decide +kernel
theorem dX8_turn_26 : decode cX8_turn 26 = .ok (.ifCond .ne 9, 3) := by decide +kernel
theorem dX8_turn_29 : decode cX8_turn 29 = .ok (.aload_n 0, 1) := by decide +kernel
theorem dX8_turn_30 : decode cX8_turn 30 = .ok (.iconst 2, 1) := by decide +kernel
theorem dX8_turn_31 : decode cX8_turn 31 = .ok (.invokevirtual 82, 3) := by decide +kernel
theorem dX8_turn_34 : decode cX8_turn 34 = .ok (.ireturn, 1) := by decide +kernel
theorem dX8_turn_35 : decode cX8_turn 35 = .ok (.aload_n 0, 1) := by decide +kernel
theorem dX8_turn_36 : decode cX8_turn 36 = .ok (.getfield 16, 3) := by decide +kernel
theorem dX8_turn_39 : decode cX8_turn 39 = .ok (.iload_n 1, 1) := by decide +kernel
theorem dX8_turn_40 : decode cX8_turn 40 = .ok (.iaload, 1) := by decide +kernel
theorem dX8_turn_41 : decode cX8_turn 41 = .ok (.istore_n 3, 1) := by decide +kernel
theorem dX8_turn_42 : decode cX8_turn 42 = .ok (.aload_n 0, 1) := by decide +kernel
theorem dX8_turn_43 : decode cX8_turn 43 = .ok (.getfield 16, 3) := by decide +kernel
theorem dX8_turn_46 : decode cX8_turn 46 = .ok (.iload_n 1, 1) := by decide +kernel
theorem dX8_turn_47 : decode cX8_turn 47 = .ok (.iload_n 2, 1) := by decide +kernel
theorem dX8_turn_48 : decode cX8_turn 48 = .ok (.iastore, 1) := by decide +kernel
theorem dX8_turn_49 : decode cX8_turn 49 = .ok (.iload_n 3, 1) := by decide +kernel
theorem dX8_turn_50 : decode cX8_turn 50 = .ok (.ireturn, 1) := by decide +kernel
theorem dX8_wind_0 : decode cX8_wind 0 = .ok (.aload_n 0, 1) := by decide +kernel
theorem dX8_wind_1 : decode cX8_wind 1 = .ok (.iconst 0, 1) := by decide +kernel
theorem dX8_wind_2 : decode cX8_wind 2 = .ok (.putfield 37, 3) := by decide +kernel
theorem dX8_wind_5 : decode cX8_wind 5 = .ok (.aload_n 0, 1) := by decide +kernel
theorem dX8_wind_6 : decode cX8_wind 6 = .ok (.iload_n 1, 1) := by decide +kernel
theorem dX8_wind_7 : decode cX8_wind 7 = .ok (.invokevirtual 51, 3) := by decide +kernel
theorem dX8_wind_10 : decode cX8_wind 10 = .ok (.ifCond .ne 9, 3) := by decide +kernel
theorem dX8_wind_13 : decode cX8_wind 13 = .ok (.aload_n 0, 1) := by decide +kernel
theorem dX8_wind_14 : decode cX8_wind 14 = .ok (.iconst 1, 1) := by decide +kernel
theorem dX8_wind_15 : decode cX8_wind 15 = .ok (.invokevirtual 82, 3) := by decide +kernel
theorem dX8_wind_18 : decode cX8_wind 18 = .ok (.ireturn, 1) := by decide +kernel
theorem dX8_wind_19 : decode cX8_wind 19 = .ok (.iload_n 2, 1) := by decide +kernel
theorem dX8_wind_20 : decode cX8_wind 20 = .ok (.bipush 20, 2) := by decide +kernel
theorem dX8_wind_22 : decode cX8_wind 22 = .ok (.sipush 200, 3) := by decide +kernel
theorem dX8_wind_25 : decode cX8_wind 25 = .ok (.invokestatic 44, 3) := by decide +kernel
theorem dX8_wind_28 : decode cX8_wind 28 = .ok (.ifCond .ne 9, 3) := by decide +kernel
theorem dX8_wind_31 : decode cX8_wind 31 = .ok (.aload_n 0, 1) := by decide +kernel
theorem dX8_wind_32 : decode cX8_wind 32 = .ok (.iconst 2, 1) := by decide +kernel
theorem dX8_wind_33 : decode cX8_wind 33 = .ok (.invokevirtual 82, 3) := by decide +kernel
theorem dX8_wind_36 : decode cX8_wind 36 = .ok (.ireturn, 1) := by decide +kernel
theorem dX8_wind_37 : decode cX8_wind 37 = .ok (.aload_n 0, 1) := by decide +kernel
theorem dX8_wind_38 : decode cX8_wind 38 = .ok (.getfield 13, 3) := by decide +kernel
theorem dX8_wind_41 : decode cX8_wind 41 = .ok (.iload_n 1, 1) := by decide +kernel
theorem dX8_wind_42 : decode cX8_wind 42 = .ok (.iaload, 1) := by decide +kernel
theorem dX8_wind_43 : decode cX8_wind 43 = .ok (.istore_n 3, 1) := by decide +kernel
theorem dX8_wind_44 : decode cX8_wind 44 = .ok (.aload_n 0, 1) := by decide +kernel
theorem dX8_wind_45 : decode cX8_wind 45 = .ok (.getfield 13, 3) := by decide +kernel
theorem dX8_wind_48 : decode cX8_wind 48 = .ok (.iload_n 1, 1) := by decide +kernel
theorem dX8_wind_49 : decode cX8_wind 49 = .ok (.iload_n 2, 1) := by decide +kernel
theorem dX8_wind_50 : decode cX8_wind 50 = .ok (.iastore, 1) := by decide +kernel
theorem dX8_wind_51 : decode cX8_wind 51 = .ok (.iload_n 3, 1) := by decide +kernel
theorem dX8_wind_52 : decode cX8_wind 52 = .ok (.ireturn, 1) := by decide +kernel
theorem dX8_listen_0 : decode cX8_listen 0 = .ok (.aload_n 0, 1) := by decide +kernel
theorem dX8_listen_1 : decode cX8_listen 1 = .ok (.iconst 0, 1) := by decide +kernel
theorem dX8_listen_2 : decode cX8_listen 2 = .ok (.putfield 37, 3) := by decide +kernel
theorem dX8_listen_5 : decode cX8_listen 5 = .ok (.aload_n 0, 1) := by decide +kernel
theorem dX8_listen_6 : decode cX8_listen 6 = .ok (.iload_n 1, 1) := by decide +kernel
theorem dX8_listen_7 : decode cX8_listen 7 = .ok (.invokevirtual 51, 3) := by decide +kernel
theorem dX8_listen_10 : decode cX8_listen 10 = .ok (.ifCond .ne 17, 3) := by decide +kernel
theorem dX8_listen_13 : decode cX8_listen 13 = .ok (.aload_n 0, 1) := by decide +kernel
theorem dX8_listen_14 : decode cX8_listen 14 = .ok (.iconst 1, 1) := by decide +kernel
theorem dX8_listen_15 : decode cX8_listen 15 = .ok (.invokevirtual 82, 3) := by decide +kernel
theorem dX8_listen_18 : decode cX8_listen 18 = .ok (.ifCond .eq 7, 3) := by decide +kernel
theorem dX8_listen_21 : decode cX8_listen 21 = .ok (.iconst 1, 1) := by decide +kernel
theorem dX8_listen_22 : decode cX8_listen 22 = .ok (.goto 4, 3) := by decide +kernel
theorem dX8_listen_25 : decode cX8_listen 25 = .ok (.iconst 0, 1) := by decide +kernel
theorem dX8_listen_26 : decode cX8_listen 26 = .ok (.ireturn, 1) := by decide +kernel
theorem dX8_listen_27 : decode cX8_listen 27 = .ok (.aload_n 0, 1) := by decide +kernel
theorem dX8_listen_28 : decode cX8_listen 28 = .ok (.getfield 22, 3) := by decide +kernel
theorem dX8_listen_31 : decode cX8_listen 31 = .ok (.iload_n 1, 1) := by decide +kernel
theorem dX8_listen_32 : decode cX8_listen 32 = .ok (.iaload, 1) := by decide +kernel
theorem dX8_listen_33 : decode cX8_listen 33 = .ok (.iconst 1, 1) := by decide +kernel
theorem dX8_listen_34 : decode cX8_listen 34 = .ok (.if_icmp .ne 7, 3) := by decide +kernel
theorem dX8_listen_37 : decode cX8_listen 37 = .ok (.iconst 1, 1) := by decide +kernel
theorem dX8_listen_38 : decode cX8_listen 38 = .ok (.goto 4, 3) := by decide +kernel
theorem dX8_listen_41 : decode cX8_listen 41 = .ok (.iconst 0, 1) := by decide +kernel
theorem dX8_listen_42 : decode cX8_listen 42 = .ok (.istore_n 3, 1) := by decide +kernel
theorem dX8_listen_43 : decode cX8_listen 43 = .ok (.aload_n 0, 1) := by decide +kernel
theorem dX8_listen_44 : decode cX8_listen 44 = .ok (.getfield 22, 3) := by decide +kernel
theorem dX8_listen_47 : decode cX8_listen 47 = .ok (.iload_n 1, 1) := by decide +kernel
theorem dX8_listen_48 : decode cX8_listen 48 = .ok (.iload_n 2, 1) := by decide +kernel
theorem dX8_listen_49 : decode cX8_listen 49 = .ok (.ifCond .eq 7, 3) := by decide +kernel
theorem dX8_listen_52 : decode cX8_listen 52 = .ok (.iconst 1, 1) := by decide +kernel
theorem dX8_listen_53 : decode cX8_listen 53 = .ok (.goto 4, 3) := by decide +kernel
theorem dX8_listen_56 : decode cX8_listen 56 = .ok (.iconst 0, 1) := by decide +kernel
theorem dX8_listen_57 : decode cX8_listen 57 = .ok (.iastore, 1) := by decide +kernel
theorem dX8_listen_58 : decode cX8_listen 58 = .ok (.iload_n 3, 1) := by decide +kernel
theorem dX8_listen_59 : decode cX8_listen 59 = .ok (.ireturn, 1) := by decide +kernel
theorem dX8_renew_0 : decode cX8_renew 0 = .ok (.aload_n 0, 1) := by decide +kernel
theorem dX8_renew_1 : decode cX8_renew 1 = .ok (.iconst 0, 1) := by decide +kernel
theorem dX8_renew_2 : decode cX8_renew 2 = .ok (.putfield 37, 3) := by decide +kernel
theorem dX8_renew_5 : decode cX8_renew 5 = .ok (.aload_n 0, 1) := by decide +kernel
theorem dX8_renew_6 : decode cX8_renew 6 = .ok (.iload_n 1, 1) := by decide +kernel
theorem dX8_renew_7 : decode cX8_renew 7 = .ok (.invokevirtual 51, 3) := by decide +kernel
theorem dX8_renew_10 : decode cX8_renew 10 = .ok (.ifCond .ne 9, 3) := by decide +kernel
theorem dX8_renew_13 : decode cX8_renew 13 = .ok (.aload_n 0, 1) := by decide +kernel
theorem dX8_renew_14 : decode cX8_renew 14 = .ok (.iconst 1, 1) := by decide +kernel
theorem dX8_renew_15 : decode cX8_renew 15 = .ok (.invokevirtual 82, 3) := by decide +kernel
theorem dX8_renew_18 : decode cX8_renew 18 = .ok (.ireturn, 1) := by decide +kernel
theorem dX8_renew_19 : decode cX8_renew 19 = .ok (.aload_n 0, 1) := by decide +kernel
theorem dX8_renew_20 : decode cX8_renew 20 = .ok (.getfield 30, 3) := by decide +kernel
theorem dX8_renew_23 : decode cX8_renew 23 = .ok (.getfield 91, 3) := by decide +kernel
theorem dX8_renew_26 : decode cX8_renew 26 = .ok (.iload_n 1, 1) := by decide +kernel
theorem dX8_renew_27 : decode cX8_renew 27 = .ok (.iaload, 1) := by decide +kernel
theorem dX8_renew_28 : decode cX8_renew 28 = .ok (.istore_n 2, 1) := by decide +kernel
theorem dX8_renew_29 : decode cX8_renew 29 = .ok (.aload_n 0, 1) := by decide +kernel
theorem dX8_renew_30 : decode cX8_renew 30 = .ok (.getfield 30, 3) := by decide +kernel
theorem dX8_renew_33 : decode cX8_renew 33 = .ok (.getfield 91, 3) := by decide +kernel
theorem dX8_renew_36 : decode cX8_renew 36 = .ok (.iload_n 1, 1) := by decide +kernel
theorem dX8_renew_37 : decode cX8_renew 37 = .ok (.bipush 9, 2) := by decide +kernel
theorem dX8_renew_39 : decode cX8_renew 39 = .ok (.iastore, 1) := by decide +kernel
theorem dX8_renew_40 : decode cX8_renew 40 = .ok (.iload_n 2, 1) := by decide +kernel
theorem dX8_renew_41 : decode cX8_renew 41 = .ok (.ireturn, 1) := by decide +kernel
theorem dX8_cards_0 : decode cX8_cards 0 = .ok (.iconst 0, 1) := by decide +kernel
theorem dX8_cards_1 : decode cX8_cards 1 = .ok (.istore_n 2, 1) := by decide +kernel
theorem dX8_cards_2 : decode cX8_cards 2 = .ok (.iconst 0, 1) := by decide +kernel
theorem dX8_cards_3 : decode cX8_cards 3 = .ok (.istore_n 3, 1) := by decide +kernel
theorem dX8_cards_4 : decode cX8_cards 4 = .ok (.iload_n 3, 1) := by decide +kernel
theorem dX8_cards_5 : decode cX8_cards 5 = .ok (.aload_n 0, 1) := by decide +kernel
theorem dX8_cards_6 : decode cX8_cards 6 = .ok (.getfield 48, 3) := by decide +kernel
theorem dX8_cards_9 : decode cX8_cards 9 = .ok (.if_icmp .ge 29, 3) := by decide +kernel
theorem dX8_cards_12 : decode cX8_cards 12 = .ok (.iload_n 2, 1) := by decide +kernel
theorem dX8_cards_13 : decode cX8_cards 13 = .ok (.aload_n 0, 1) := by decide +kernel
theorem dX8_cards_14 : decode cX8_cards 14 = .ok (.getfield 30, 3) := by decide +kernel
theorem dX8_cards_17 : decode cX8_cards 17 = .ok (.iload_n 3, 1) := by decide +kernel
theorem dX8_cards_18 : decode cX8_cards 18 = .ok (.iload_n 1, 1) := by decide +kernel
theorem dX8_cards_19 : decode cX8_cards 19 = .ok (.invokevirtual 94, 3) := by decide +kernel
theorem dX8_cards_22 : decode cX8_cards 22 = .ok (.ifCond .eq 7, 3) := by decide +kernel
theorem dX8_cards_25 : decode cX8_cards 25 = .ok (.iconst 1, 1) := by decide +kernel
theorem dX8_cards_26 : decode cX8_cards 26 = .ok (.goto 4, 3) := by decide +kernel
theorem dX8_cards_29 : decode cX8_cards 29 = .ok (.iconst 0, 1) := by decide +kernel
theorem dX8_cards_30 : decode cX8_cards 30 = .ok (.iadd, 1) := by decide +kernel
theorem dX8_cards_31 : decode cX8_cards 31 = .ok (.istore_n 2, 1) := by decide +kernel
theorem dX8_cards_32 : decode cX8_cards 32 = .ok (.iinc 3 1, 3) := by decide +kernel
theorem dX8_cards_35 : decode cX8_cards 35 = .ok (.goto (-31), 3) := by decide +kernel
theorem dX8_cards_38 : decode cX8_cards 38 = .ok (.iload_n 2, 1) := by decide +kernel
theorem dX8_cards_39 : decode cX8_cards 39 = .ok (.ireturn, 1) := by decide +kernel
theorem dX8_stationTold_0 : decode cX8_stationTold 0 = .ok (.iload_n 2, 1) := by decide +kernel
theorem dX8_stationTold_1 : decode cX8_stationTold 1 = .ok (.iconst 3, 1) := by decide +kernel
theorem dX8_stationTold_2 : decode cX8_stationTold 2 = .ok (.if_icmp .ge 15, 3) := by decide +kernel
theorem dX8_stationTold_5 : decode cX8_stationTold 5 = .ok (.aload_n 0, 1) := by decide +kernel
theorem dX8_stationTold_6 : decode cX8_stationTold 6 = .ok (.getfield 9, 3) := by decide +kernel
theorem dX8_stationTold_9 : decode cX8_stationTold 9 = .ok (.bipush 6, 2) := by decide +kernel
theorem dX8_stationTold_11 : decode cX8_stationTold 11 = .ok (.iload_n 1, 1) := by decide +kernel
theorem dX8_stationTold_12 : decode cX8_stationTold 12 = .ok (.imul, 1) := by decide +kernel
theorem dX8_stationTold_13 : decode cX8_stationTold 13 = .ok (.iload_n 2, 1) := by decide +kernel
theorem dX8_stationTold_14 : decode cX8_stationTold 14 = .ok (.iadd, 1) := by decide +kernel
theorem dX8_stationTold_15 : decode cX8_stationTold 15 = .ok (.iaload, 1) := by decide +kernel
theorem dX8_stationTold_16 : decode cX8_stationTold 16 = .ok (.ireturn, 1) := by decide +kernel
theorem dX8_stationTold_17 : decode cX8_stationTold 17 = .ok (.iload_n 2, 1) := by decide +kernel
theorem dX8_stationTold_18 : decode cX8_stationTold 18 = .ok (.iconst 3, 1) := by decide +kernel
theorem dX8_stationTold_19 : decode cX8_stationTold 19 = .ok (.if_icmp .ne 19, 3) := by decide +kernel
theorem dX8_stationTold_22 : decode cX8_stationTold 22 = .ok (.aload_n 0, 1) := by decide +kernel
theorem dX8_stationTold_23 : decode cX8_stationTold 23 = .ok (.aload_n 0, 1) := by decide +kernel
theorem dX8_stationTold_24 : decode cX8_stationTold 24 = .ok (.getfield 30, 3) := by decide +kernel
theorem dX8_stationTold_27 : decode cX8_stationTold 27 = .ok (.getfield 98, 3) := by decide +kernel
theorem dX8_stationTold_30 : decode cX8_stationTold 30 = .ok (.invokevirtual 101, 3) := by decide +kernel
theorem dX8_stationTold_33 : decode cX8_stationTold 33 = .ok (.iload_n 1, 1) := by decide +kernel
theorem dX8_stationTold_34 : decode cX8_stationTold 34 = .ok (.ishr, 1) := by decide +kernel
theorem dX8_stationTold_35 : decode cX8_stationTold 35 = .ok (.iconst 1, 1) := by decide +kernel
theorem dX8_stationTold_36 : decode cX8_stationTold 36 = .ok (.iand, 1) := by decide +kernel
theorem dX8_stationTold_37 : decode cX8_stationTold 37 = .ok (.ireturn, 1) := by decide +kernel
theorem dX8_stationTold_38 : decode cX8_stationTold 38 = .ok (.iload_n 2, 1) := by decide +kernel
theorem dX8_stationTold_39 : decode cX8_stationTold 39 = .ok (.iconst 4, 1) := by decide +kernel
theorem dX8_stationTold_40 : decode cX8_stationTold 40 = .ok (.if_icmp .ne 18, 3) := by decide +kernel
theorem dX8_stationTold_43 : decode cX8_stationTold 43 = .ok (.aload_n 0, 1) := by decide +kernel
theorem dX8_stationTold_44 : decode cX8_stationTold 44 = .ok (.iload_n 1, 1) := by decide +kernel
theorem dX8_stationTold_45 : decode cX8_stationTold 45 = .ok (.aload_n 0, 1) := by decide +kernel
theorem dX8_stationTold_46 : decode cX8_stationTold 46 = .ok (.getfield 30, 3) := by decide +kernel
theorem dX8_stationTold_49 : decode cX8_stationTold 49 = .ok (.getfield 98, 3) := by decide +kernel
theorem dX8_stationTold_52 : decode cX8_stationTold 52 = .ok (.invokevirtual 75, 3) := by decide +kernel
theorem dX8_stationTold_55 : decode cX8_stationTold 55 = .ok (.goto 8, 3) := by decide +kernel
theorem dX8_stationTold_58 : decode cX8_stationTold 58 = .ok (.aload_n 0, 1) := by decide +kernel
theorem dX8_stationTold_59 : decode cX8_stationTold 59 = .ok (.iload_n 1, 1) := by decide +kernel
theorem dX8_stationTold_60 : decode cX8_stationTold 60 = .ok (.invokevirtual 104, 3) := by decide +kernel
theorem dX8_stationTold_63 : decode cX8_stationTold 63 = .ok (.ireturn, 1) := by decide +kernel
theorem dX8_station_0 : decode cX8_station 0 = .ok (.aload_n 0, 1) := by decide +kernel
theorem dX8_station_1 : decode cX8_station 1 = .ok (.iconst 0, 1) := by decide +kernel
theorem dX8_station_2 : decode cX8_station 2 = .ok (.putfield 37, 3) := by decide +kernel
theorem dX8_station_5 : decode cX8_station 5 = .ok (.aload_n 0, 1) := by decide +kernel
theorem dX8_station_6 : decode cX8_station 6 = .ok (.iload_n 1, 1) := by decide +kernel
theorem dX8_station_7 : decode cX8_station 7 = .ok (.invokevirtual 107, 3) := by decide +kernel
theorem dX8_station_10 : decode cX8_station 10 = .ok (.ifCond .eq 21, 3) := by decide +kernel
theorem dX8_station_13 : decode cX8_station 13 = .ok (.iload_n 2, 1) := by decide +kernel
theorem dX8_station_14 : decode cX8_station 14 = .ok (.iconst 0, 1) := by decide +kernel
theorem dX8_station_15 : decode cX8_station 15 = .ok (.iconst 5, 1) := by decide +kernel
theorem dX8_station_16 : decode cX8_station 16 = .ok (.invokestatic 44, 3) := by decide +kernel
theorem dX8_station_19 : decode cX8_station 19 = .ok (.ifCond .eq 12, 3) := by decide +kernel
theorem dX8_station_22 : decode cX8_station 22 = .ok (.aload_n 0, 1) := by decide +kernel
theorem dX8_station_23 : decode cX8_station 23 = .ok (.iload_n 1, 1) := by decide +kernel
theorem dX8_station_24 : decode cX8_station 24 = .ok (.iload_n 2, 1) := by decide +kernel
theorem dX8_station_25 : decode cX8_station 25 = .ok (.invokevirtual 110, 3) := by decide +kernel
theorem dX8_station_28 : decode cX8_station 28 = .ok (.goto 8, 3) := by decide +kernel
theorem dX8_station_31 : decode cX8_station 31 = .ok (.aload_n 0, 1) := by decide +kernel
theorem dX8_station_32 : decode cX8_station 32 = .ok (.iconst 1, 1) := by decide +kernel
theorem dX8_station_33 : decode cX8_station 33 = .ok (.invokevirtual 82, 3) := by decide +kernel
theorem dX8_station_36 : decode cX8_station 36 = .ok (.ireturn, 1) := by decide +kernel
theorem dX8_held_0 : decode cX8_held 0 = .ok (.iconst 0, 1) := by decide +kernel
theorem dX8_held_1 : decode cX8_held 1 = .ok (.istore_n 3, 1) := by decide +kernel
theorem dX8_held_2 : decode cX8_held 2 = .ok (.iconst 0, 1) := by decide +kernel
theorem dX8_held_3 : decode cX8_held 3 = .ok (.istore 4, 2) := by decide +kernel
theorem dX8_held_5 : decode cX8_held 5 = .ok (.iload 4, 2) := by decide +kernel
theorem dX8_held_7 : decode cX8_held 7 = .ok (.aload_n 0, 1) := by decide +kernel
theorem dX8_held_8 : decode cX8_held 8 = .ok (.getfield 41, 3) := by decide +kernel
theorem dX8_held_11 : decode cX8_held 11 = .ok (.if_icmp .ge 45, 3) := by decide +kernel
theorem dX8_held_14 : decode cX8_held 14 = .ok (.aload_n 0, 1) := by decide +kernel
theorem dX8_held_15 : decode cX8_held 15 = .ok (.getfield 30, 3) := by decide +kernel
theorem dX8_held_18 : decode cX8_held 18 = .ok (.iload_n 1, 1) := by decide +kernel
theorem dX8_held_19 : decode cX8_held 19 = .ok (.iload 4, 2) := by decide +kernel
theorem dX8_held_21 : decode cX8_held 21 = .ok (.invokevirtual 94, 3) := by decide +kernel
theorem dX8_held_24 : decode cX8_held 24 = .ok (.ifCond .eq 26, 3) := by decide +kernel
theorem dX8_held_27 : decode cX8_held 27 = .ok (.iload_n 3, 1) := by decide +kernel
theorem dX8_held_28 : decode cX8_held 28 = .ok (.iload_n 2, 1) := by decide +kernel
theorem dX8_held_29 : decode cX8_held 29 = .ok (.ifCond .eq 18, 3) := by decide +kernel
theorem dX8_held_32 : decode cX8_held 32 = .ok (.aload_n 0, 1) := by decide +kernel
theorem dX8_held_33 : decode cX8_held 33 = .ok (.getfield 9, 3) := by decide +kernel
theorem dX8_held_36 : decode cX8_held 36 = .ok (.bipush 6, 2) := by decide +kernel
theorem dX8_held_38 : decode cX8_held 38 = .ok (.iload 4, 2) := by decide +kernel
theorem dX8_held_40 : decode cX8_held 40 = .ok (.imul, 1) := by decide +kernel
theorem dX8_held_41 : decode cX8_held 41 = .ok (.iconst 2, 1) := by decide +kernel
theorem dX8_held_42 : decode cX8_held 42 = .ok (.iadd, 1) := by decide +kernel
theorem dX8_held_43 : decode cX8_held 43 = .ok (.iaload, 1) := by decide +kernel
theorem dX8_held_44 : decode cX8_held 44 = .ok (.goto 4, 3) := by decide +kernel
theorem dX8_held_47 : decode cX8_held 47 = .ok (.iconst 1, 1) := by decide +kernel
theorem dX8_held_48 : decode cX8_held 48 = .ok (.iadd, 1) := by decide +kernel
theorem dX8_held_49 : decode cX8_held 49 = .ok (.istore_n 3, 1) := by decide +kernel
theorem dX8_held_50 : decode cX8_held 50 = .ok (.iinc 4 1, 3) := by decide +kernel
theorem dX8_held_53 : decode cX8_held 53 = .ok (.goto (-48), 3) := by decide +kernel
theorem dX8_held_56 : decode cX8_held 56 = .ok (.iload_n 3, 1) := by decide +kernel
theorem dX8_held_57 : decode cX8_held 57 = .ok (.ireturn, 1) := by decide +kernel
theorem dX8_memberTold_0 : decode cX8_memberTold 0 = .ok (.iload_n 2, 1) := by decide +kernel
theorem dX8_memberTold_1 : decode cX8_memberTold 1 = .ok (.tableswitch 121 0 7 #[47, 54, 61, 68, 78, 85, 101, 111], 47) := by decide +kernel
theorem dX8_memberTold_48 : decode cX8_memberTold 48 = .ok (.aload_n 0, 1) := by decide +kernel
theorem dX8_memberTold_49 : decode cX8_memberTold 49 = .ok (.getfield 13, 3) := by decide +kernel
theorem dX8_memberTold_52 : decode cX8_memberTold 52 = .ok (.iload_n 1, 1) := by decide +kernel
theorem dX8_memberTold_53 : decode cX8_memberTold 53 = .ok (.iaload, 1) := by decide +kernel
theorem dX8_memberTold_54 : decode cX8_memberTold 54 = .ok (.ireturn, 1) := by decide +kernel
theorem dX8_memberTold_55 : decode cX8_memberTold 55 = .ok (.aload_n 0, 1) := by decide +kernel
theorem dX8_memberTold_56 : decode cX8_memberTold 56 = .ok (.getfield 16, 3) := by decide +kernel
theorem dX8_memberTold_59 : decode cX8_memberTold 59 = .ok (.iload_n 1, 1) := by decide +kernel
theorem dX8_memberTold_60 : decode cX8_memberTold 60 = .ok (.iaload, 1) := by decide +kernel
theorem dX8_memberTold_61 : decode cX8_memberTold 61 = .ok (.ireturn, 1) := by decide +kernel
theorem dX8_memberTold_62 : decode cX8_memberTold 62 = .ok (.aload_n 0, 1) := by decide +kernel
theorem dX8_memberTold_63 : decode cX8_memberTold 63 = .ok (.getfield 19, 3) := by decide +kernel
theorem dX8_memberTold_66 : decode cX8_memberTold 66 = .ok (.iload_n 1, 1) := by decide +kernel
theorem dX8_memberTold_67 : decode cX8_memberTold 67 = .ok (.iaload, 1) := by decide +kernel
theorem dX8_memberTold_68 : decode cX8_memberTold 68 = .ok (.ireturn, 1) := by decide +kernel
theorem dX8_memberTold_69 : decode cX8_memberTold 69 = .ok (.aload_n 0, 1) := by decide +kernel
theorem dX8_memberTold_70 : decode cX8_memberTold 70 = .ok (.getfield 30, 3) := by decide +kernel
theorem dX8_memberTold_73 : decode cX8_memberTold 73 = .ok (.getfield 91, 3) := by decide +kernel
theorem dX8_memberTold_76 : decode cX8_memberTold 76 = .ok (.iload_n 1, 1) := by decide +kernel
theorem dX8_memberTold_77 : decode cX8_memberTold 77 = .ok (.iaload, 1) := by decide +kernel
theorem dX8_memberTold_78 : decode cX8_memberTold 78 = .ok (.ireturn, 1) := by decide +kernel
theorem dX8_memberTold_79 : decode cX8_memberTold 79 = .ok (.aload_n 0, 1) := by decide +kernel
theorem dX8_memberTold_80 : decode cX8_memberTold 80 = .ok (.getfield 22, 3) := by decide +kernel
theorem dX8_memberTold_83 : decode cX8_memberTold 83 = .ok (.iload_n 1, 1) := by decide +kernel
theorem dX8_memberTold_84 : decode cX8_memberTold 84 = .ok (.iaload, 1) := by decide +kernel
theorem dX8_memberTold_85 : decode cX8_memberTold 85 = .ok (.ireturn, 1) := by decide +kernel
theorem dX8_memberTold_86 : decode cX8_memberTold 86 = .ok (.aload_n 0, 1) := by decide +kernel
theorem dX8_memberTold_87 : decode cX8_memberTold 87 = .ok (.getfield 13, 3) := by decide +kernel
theorem dX8_memberTold_90 : decode cX8_memberTold 90 = .ok (.iload_n 1, 1) := by decide +kernel
theorem dX8_memberTold_91 : decode cX8_memberTold 91 = .ok (.iaload, 1) := by decide +kernel
theorem dX8_memberTold_92 : decode cX8_memberTold 92 = .ok (.aload_n 0, 1) := by decide +kernel
theorem dX8_memberTold_93 : decode cX8_memberTold 93 = .ok (.getfield 16, 3) := by decide +kernel
theorem dX8_memberTold_96 : decode cX8_memberTold 96 = .ok (.iload_n 1, 1) := by decide +kernel
theorem dX8_memberTold_97 : decode cX8_memberTold 97 = .ok (.iaload, 1) := by decide +kernel
theorem dX8_memberTold_98 : decode cX8_memberTold 98 = .ok (.invokestatic 72, 3) := by decide +kernel
theorem dX8_memberTold_101 : decode cX8_memberTold 101 = .ok (.ireturn, 1) := by decide +kernel
theorem dX8_memberTold_102 : decode cX8_memberTold 102 = .ok (.aload_n 0, 1) := by decide +kernel
theorem dX8_memberTold_103 : decode cX8_memberTold 103 = .ok (.getfield 13, 3) := by decide +kernel
theorem dX8_memberTold_106 : decode cX8_memberTold 106 = .ok (.iload_n 1, 1) := by decide +kernel
theorem dX8_memberTold_107 : decode cX8_memberTold 107 = .ok (.iaload, 1) := by decide +kernel
theorem dX8_memberTold_108 : decode cX8_memberTold 108 = .ok (.invokestatic 69, 3) := by decide +kernel
theorem dX8_memberTold_111 : decode cX8_memberTold 111 = .ok (.ireturn, 1) := by decide +kernel
theorem dX8_memberTold_112 : decode cX8_memberTold 112 = .ok (.aload_n 0, 1) := by decide +kernel
theorem dX8_memberTold_113 : decode cX8_memberTold 113 = .ok (.getfield 30, 3) := by decide +kernel
theorem dX8_memberTold_116 : decode cX8_memberTold 116 = .ok (.getfield 55, 3) := by decide +kernel
theorem dX8_memberTold_119 : decode cX8_memberTold 119 = .ok (.iload_n 1, 1) := by decide +kernel
theorem dX8_memberTold_120 : decode cX8_memberTold 120 = .ok (.iaload, 1) := by decide +kernel
theorem dX8_memberTold_121 : decode cX8_memberTold 121 = .ok (.ireturn, 1) := by decide +kernel
theorem dX8_memberTold_122 : decode cX8_memberTold 122 = .ok (.aload_n 0, 1) := by decide +kernel
theorem dX8_memberTold_123 : decode cX8_memberTold 123 = .ok (.iload_n 1, 1) := by decide +kernel
theorem dX8_memberTold_124 : decode cX8_memberTold 124 = .ok (.iload_n 2, 1) := by decide +kernel
theorem dX8_memberTold_125 : decode cX8_memberTold 125 = .ok (.bipush 9, 2) := by decide +kernel
theorem dX8_memberTold_127 : decode cX8_memberTold 127 = .ok (.if_icmp .ne 7, 3) := by decide +kernel
theorem dX8_memberTold_130 : decode cX8_memberTold 130 = .ok (.iconst 1, 1) := by decide +kernel
theorem dX8_memberTold_131 : decode cX8_memberTold 131 = .ok (.goto 4, 3) := by decide +kernel
theorem dX8_memberTold_134 : decode cX8_memberTold 134 = .ok (.iconst 0, 1) := by decide +kernel
theorem dX8_memberTold_135 : decode cX8_memberTold 135 = .ok (.invokevirtual 113, 3) := by decide +kernel
theorem dX8_memberTold_138 : decode cX8_memberTold 138 = .ok (.ireturn, 1) := by decide +kernel
theorem dX8_member_0 : decode cX8_member 0 = .ok (.aload_n 0, 1) := by decide +kernel
theorem dX8_member_1 : decode cX8_member 1 = .ok (.iconst 0, 1) := by decide +kernel
theorem dX8_member_2 : decode cX8_member 2 = .ok (.putfield 37, 3) := by decide +kernel
theorem dX8_member_5 : decode cX8_member 5 = .ok (.aload_n 0, 1) := by decide +kernel
theorem dX8_member_6 : decode cX8_member 6 = .ok (.iload_n 1, 1) := by decide +kernel
theorem dX8_member_7 : decode cX8_member 7 = .ok (.invokevirtual 51, 3) := by decide +kernel
theorem dX8_member_10 : decode cX8_member 10 = .ok (.ifCond .eq 22, 3) := by decide +kernel
theorem dX8_member_13 : decode cX8_member 13 = .ok (.iload_n 2, 1) := by decide +kernel
theorem dX8_member_14 : decode cX8_member 14 = .ok (.iconst 0, 1) := by decide +kernel
theorem dX8_member_15 : decode cX8_member 15 = .ok (.bipush 9, 2) := by decide +kernel
theorem dX8_member_17 : decode cX8_member 17 = .ok (.invokestatic 44, 3) := by decide +kernel
theorem dX8_member_20 : decode cX8_member 20 = .ok (.ifCond .eq 12, 3) := by decide +kernel
theorem dX8_member_23 : decode cX8_member 23 = .ok (.aload_n 0, 1) := by decide +kernel
theorem dX8_member_24 : decode cX8_member 24 = .ok (.iload_n 1, 1) := by decide +kernel
theorem dX8_member_25 : decode cX8_member 25 = .ok (.iload_n 2, 1) := by decide +kernel
theorem dX8_member_26 : decode cX8_member 26 = .ok (.invokevirtual 117, 3) := by decide +kernel
theorem dX8_member_29 : decode cX8_member 29 = .ok (.goto 8, 3) := by decide +kernel
theorem dX8_member_32 : decode cX8_member 32 = .ok (.aload_n 0, 1) := by decide +kernel
theorem dX8_member_33 : decode cX8_member 33 = .ok (.iconst 1, 1) := by decide +kernel
theorem dX8_member_34 : decode cX8_member 34 = .ok (.invokevirtual 82, 3) := by decide +kernel
theorem dX8_member_37 : decode cX8_member 37 = .ok (.ireturn, 1) := by decide +kernel
theorem dX8_strength_0 : decode cX8_strength 0 = .ok (.aload_n 0, 1) := by decide +kernel
theorem dX8_strength_1 : decode cX8_strength 1 = .ok (.iconst 0, 1) := by decide +kernel
theorem dX8_strength_2 : decode cX8_strength 2 = .ok (.putfield 37, 3) := by decide +kernel
theorem dX8_strength_5 : decode cX8_strength 5 = .ok (.aload_n 0, 1) := by decide +kernel
theorem dX8_strength_6 : decode cX8_strength 6 = .ok (.iload_n 1, 1) := by decide +kernel
theorem dX8_strength_7 : decode cX8_strength 7 = .ok (.invokevirtual 51, 3) := by decide +kernel
theorem dX8_strength_10 : decode cX8_strength 10 = .ok (.ifCond .eq 11, 3) := by decide +kernel
theorem dX8_strength_13 : decode cX8_strength 13 = .ok (.aload_n 0, 1) := by decide +kernel
theorem dX8_strength_14 : decode cX8_strength 14 = .ok (.iload_n 2, 1) := by decide +kernel
theorem dX8_strength_15 : decode cX8_strength 15 = .ok (.invokevirtual 107, 3) := by decide +kernel
theorem dX8_strength_18 : decode cX8_strength 18 = .ok (.ifCond .ne 9, 3) := by decide +kernel
theorem dX8_strength_21 : decode cX8_strength 21 = .ok (.aload_n 0, 1) := by decide +kernel
theorem dX8_strength_22 : decode cX8_strength 22 = .ok (.iconst 1, 1) := by decide +kernel
theorem dX8_strength_23 : decode cX8_strength 23 = .ok (.invokevirtual 82, 3) := by decide +kernel
theorem dX8_strength_26 : decode cX8_strength 26 = .ok (.ireturn, 1) := by decide +kernel
theorem dX8_strength_27 : decode cX8_strength 27 = .ok (.aload_n 0, 1) := by decide +kernel
theorem dX8_strength_28 : decode cX8_strength 28 = .ok (.aload_n 0, 1) := by decide +kernel
theorem dX8_strength_29 : decode cX8_strength 29 = .ok (.getfield 30, 3) := by decide +kernel
theorem dX8_strength_32 : decode cX8_strength 32 = .ok (.getfield 98, 3) := by decide +kernel
theorem dX8_strength_35 : decode cX8_strength 35 = .ok (.invokevirtual 101, 3) := by decide +kernel
theorem dX8_strength_38 : decode cX8_strength 38 = .ok (.iload_n 2, 1) := by decide +kernel
theorem dX8_strength_39 : decode cX8_strength 39 = .ok (.ishr, 1) := by decide +kernel
theorem dX8_strength_40 : decode cX8_strength 40 = .ok (.iconst 1, 1) := by decide +kernel
theorem dX8_strength_41 : decode cX8_strength 41 = .ok (.iand, 1) := by decide +kernel
theorem dX8_strength_42 : decode cX8_strength 42 = .ok (.ifCond .ne 7, 3) := by decide +kernel
theorem dX8_strength_45 : decode cX8_strength 45 = .ok (.iconst 0, 1) := by decide +kernel
theorem dX8_strength_46 : decode cX8_strength 46 = .ok (.goto 37, 3) := by decide +kernel
theorem dX8_strength_49 : decode cX8_strength 49 = .ok (.aload_n 0, 1) := by decide +kernel
theorem dX8_strength_50 : decode cX8_strength 50 = .ok (.iload_n 1, 1) := by decide +kernel
theorem dX8_strength_51 : decode cX8_strength 51 = .ok (.iload_n 2, 1) := by decide +kernel
theorem dX8_strength_52 : decode cX8_strength 52 = .ok (.aload_n 0, 1) := by decide +kernel
theorem dX8_strength_53 : decode cX8_strength 53 = .ok (.getfield 30, 3) := by decide +kernel
theorem dX8_strength_56 : decode cX8_strength 56 = .ok (.getfield 98, 3) := by decide +kernel
theorem dX8_strength_59 : decode cX8_strength 59 = .ok (.aload_n 0, 1) := by decide +kernel
theorem dX8_strength_60 : decode cX8_strength 60 = .ok (.getfield 13, 3) := by decide +kernel
theorem dX8_strength_63 : decode cX8_strength 63 = .ok (.iload_n 1, 1) := by decide +kernel
theorem dX8_strength_64 : decode cX8_strength 64 = .ok (.iaload, 1) := by decide +kernel
theorem dX8_strength_65 : decode cX8_strength 65 = .ok (.aload_n 0, 1) := by decide +kernel
theorem dX8_strength_66 : decode cX8_strength 66 = .ok (.getfield 16, 3) := by decide +kernel
theorem dX8_strength_69 : decode cX8_strength 69 = .ok (.iload_n 1, 1) := by decide +kernel
theorem dX8_strength_70 : decode cX8_strength 70 = .ok (.iaload, 1) := by decide +kernel
theorem dX8_strength_71 : decode cX8_strength 71 = .ok (.aload_n 0, 1) := by decide +kernel
theorem dX8_strength_72 : decode cX8_strength 72 = .ok (.getfield 30, 3) := by decide +kernel
theorem dX8_strength_75 : decode cX8_strength 75 = .ok (.getfield 91, 3) := by decide +kernel
theorem dX8_strength_78 : decode cX8_strength 78 = .ok (.iload_n 1, 1) := by decide +kernel
theorem dX8_strength_79 : decode cX8_strength 79 = .ok (.iaload, 1) := by decide +kernel
theorem dX8_strength_80 : decode cX8_strength 80 = .ok (.invokevirtual 78, 3) := by decide +kernel
theorem dX8_strength_83 : decode cX8_strength 83 = .ok (.ireturn, 1) := by decide +kernel
theorem dX8_hears_0 : decode cX8_hears 0 = .ok (.aload_n 0, 1) := by decide +kernel
theorem dX8_hears_1 : decode cX8_hears 1 = .ok (.iconst 0, 1) := by decide +kernel
theorem dX8_hears_2 : decode cX8_hears 2 = .ok (.putfield 37, 3) := by decide +kernel
theorem dX8_hears_5 : decode cX8_hears 5 = .ok (.aload_n 0, 1) := by decide +kernel
theorem dX8_hears_6 : decode cX8_hears 6 = .ok (.iload_n 1, 1) := by decide +kernel
theorem dX8_hears_7 : decode cX8_hears 7 = .ok (.invokevirtual 51, 3) := by decide +kernel
theorem dX8_hears_10 : decode cX8_hears 10 = .ok (.ifCond .eq 50, 3) := by decide +kernel
theorem dX8_hears_13 : decode cX8_hears 13 = .ok (.aload_n 0, 1) := by decide +kernel
theorem dX8_hears_14 : decode cX8_hears 14 = .ok (.iload_n 1, 1) := by decide +kernel
theorem dX8_hears_15 : decode cX8_hears 15 = .ok (.aload_n 0, 1) := by decide +kernel
theorem dX8_hears_16 : decode cX8_hears 16 = .ok (.getfield 30, 3) := by decide +kernel
theorem dX8_hears_19 : decode cX8_hears 19 = .ok (.getfield 98, 3) := by decide +kernel
theorem dX8_hears_22 : decode cX8_hears 22 = .ok (.aload_n 0, 1) := by decide +kernel
theorem dX8_hears_23 : decode cX8_hears 23 = .ok (.getfield 13, 3) := by decide +kernel
theorem dX8_hears_26 : decode cX8_hears 26 = .ok (.iload_n 1, 1) := by decide +kernel
theorem dX8_hears_27 : decode cX8_hears 27 = .ok (.iaload, 1) := by decide +kernel
theorem dX8_hears_28 : decode cX8_hears 28 = .ok (.aload_n 0, 1) := by decide +kernel
theorem dX8_hears_29 : decode cX8_hears 29 = .ok (.getfield 16, 3) := by decide +kernel
theorem dX8_hears_32 : decode cX8_hears 32 = .ok (.iload_n 1, 1) := by decide +kernel
theorem dX8_hears_33 : decode cX8_hears 33 = .ok (.iaload, 1) := by decide +kernel
theorem dX8_hears_34 : decode cX8_hears 34 = .ok (.aload_n 0, 1) := by decide +kernel
theorem dX8_hears_35 : decode cX8_hears 35 = .ok (.getfield 30, 3) := by decide +kernel
theorem dX8_hears_38 : decode cX8_hears 38 = .ok (.getfield 91, 3) := by decide +kernel
theorem dX8_hears_41 : decode cX8_hears 41 = .ok (.iload_n 1, 1) := by decide +kernel
theorem dX8_hears_42 : decode cX8_hears 42 = .ok (.iaload, 1) := by decide +kernel
theorem dX8_hears_43 : decode cX8_hears 43 = .ok (.aload_n 0, 1) := by decide +kernel
theorem dX8_hears_44 : decode cX8_hears 44 = .ok (.aload_n 0, 1) := by decide +kernel
theorem dX8_hears_45 : decode cX8_hears 45 = .ok (.getfield 30, 3) := by decide +kernel
theorem dX8_hears_48 : decode cX8_hears 48 = .ok (.getfield 98, 3) := by decide +kernel
theorem dX8_hears_51 : decode cX8_hears 51 = .ok (.invokevirtual 101, 3) := by decide +kernel
theorem dX8_hears_54 : decode cX8_hears 54 = .ok (.invokevirtual 120, 3) := by decide +kernel
theorem dX8_hears_57 : decode cX8_hears 57 = .ok (.goto 8, 3) := by decide +kernel
theorem dX8_hears_60 : decode cX8_hears 60 = .ok (.aload_n 0, 1) := by decide +kernel
theorem dX8_hears_61 : decode cX8_hears 61 = .ok (.iconst 1, 1) := by decide +kernel
theorem dX8_hears_62 : decode cX8_hears 62 = .ok (.invokevirtual 82, 3) := by decide +kernel
theorem dX8_hears_65 : decode cX8_hears 65 = .ok (.ireturn, 1) := by decide +kernel
theorem dX8_log_0 : decode cX8_log 0 = .ok (.aload_n 0, 1) := by decide +kernel
theorem dX8_log_1 : decode cX8_log 1 = .ok (.iconst 0, 1) := by decide +kernel
theorem dX8_log_2 : decode cX8_log 2 = .ok (.putfield 37, 3) := by decide +kernel
theorem dX8_log_5 : decode cX8_log 5 = .ok (.aload_n 0, 1) := by decide +kernel
theorem dX8_log_6 : decode cX8_log 6 = .ok (.iload_n 1, 1) := by decide +kernel
theorem dX8_log_7 : decode cX8_log 7 = .ok (.iload_n 2, 1) := by decide +kernel
theorem dX8_log_8 : decode cX8_log 8 = .ok (.invokevirtual 123, 3) := by decide +kernel
theorem dX8_log_11 : decode cX8_log 11 = .ok (.ifCond .eq 33, 3) := by decide +kernel
theorem dX8_log_14 : decode cX8_log 14 = .ok (.iload_n 3, 1) := by decide +kernel
theorem dX8_log_15 : decode cX8_log 15 = .ok (.iconst 0, 1) := by decide +kernel
theorem dX8_log_16 : decode cX8_log 16 = .ok (.iconst 3, 1) := by decide +kernel
theorem dX8_log_17 : decode cX8_log 17 = .ok (.invokestatic 44, 3) := by decide +kernel
theorem dX8_log_20 : decode cX8_log 20 = .ok (.ifCond .eq 24, 3) := by decide +kernel
theorem dX8_log_23 : decode cX8_log 23 = .ok (.aload_n 0, 1) := by decide +kernel
theorem dX8_log_24 : decode cX8_log 24 = .ok (.getfield 30, 3) := by decide +kernel
theorem dX8_log_27 : decode cX8_log 27 = .ok (.getfield 126, 3) := by decide +kernel
theorem dX8_log_30 : decode cX8_log 30 = .ok (.iconst 4, 1) := by decide +kernel
theorem dX8_log_31 : decode cX8_log 31 = .ok (.bipush 40, 2) := by decide +kernel
theorem dX8_log_33 : decode cX8_log 33 = .ok (.iload_n 1, 1) := by decide +kernel
theorem dX8_log_34 : decode cX8_log 34 = .ok (.imul, 1) := by decide +kernel
theorem dX8_log_35 : decode cX8_log 35 = .ok (.iload_n 2, 1) := by decide +kernel
theorem dX8_log_36 : decode cX8_log 36 = .ok (.iadd, 1) := by decide +kernel
theorem dX8_log_37 : decode cX8_log 37 = .ok (.imul, 1) := by decide +kernel
theorem dX8_log_38 : decode cX8_log 38 = .ok (.iload_n 3, 1) := by decide +kernel
theorem dX8_log_39 : decode cX8_log 39 = .ok (.iadd, 1) := by decide +kernel
theorem dX8_log_40 : decode cX8_log 40 = .ok (.iaload, 1) := by decide +kernel
theorem dX8_log_41 : decode cX8_log 41 = .ok (.goto 8, 3) := by decide +kernel
theorem dX8_log_44 : decode cX8_log 44 = .ok (.aload_n 0, 1) := by decide +kernel
theorem dX8_log_45 : decode cX8_log 45 = .ok (.iconst 1, 1) := by decide +kernel
theorem dX8_log_46 : decode cX8_log 46 = .ok (.invokevirtual 82, 3) := by decide +kernel
theorem dX8_log_49 : decode cX8_log 49 = .ok (.ireturn, 1) := by decide +kernel
theorem dX8_write_0 : decode cX8_write 0 = .ok (.aload_n 0, 1) := by decide +kernel
theorem dX8_write_1 : decode cX8_write 1 = .ok (.iconst 0, 1) := by decide +kernel
theorem dX8_write_2 : decode cX8_write 2 = .ok (.putfield 37, 3) := by decide +kernel
theorem dX8_write_5 : decode cX8_write 5 = .ok (.aload_n 0, 1) := by decide +kernel
theorem dX8_write_6 : decode cX8_write 6 = .ok (.iload_n 1, 1) := by decide +kernel
theorem dX8_write_7 : decode cX8_write 7 = .ok (.iload_n 2, 1) := by decide +kernel
theorem dX8_write_8 : decode cX8_write 8 = .ok (.invokevirtual 123, 3) := by decide +kernel
theorem dX8_write_11 : decode cX8_write 11 = .ok (.ifCond .ne 9, 3) := by decide +kernel
theorem dX8_write_14 : decode cX8_write 14 = .ok (.aload_n 0, 1) := by decide +kernel
theorem dX8_write_15 : decode cX8_write 15 = .ok (.iconst 1, 1) := by decide +kernel
theorem dX8_write_16 : decode cX8_write 16 = .ok (.invokevirtual 82, 3) := by decide +kernel
theorem dX8_write_19 : decode cX8_write 19 = .ok (.ireturn, 1) := by decide +kernel
theorem dX8_write_20 : decode cX8_write 20 = .ok (.bipush 40, 2) := by decide +kernel
theorem dX8_write_22 : decode cX8_write 22 = .ok (.iload_n 1, 1) := by decide +kernel
theorem dX8_write_23 : decode cX8_write 23 = .ok (.imul, 1) := by decide +kernel
theorem dX8_write_24 : decode cX8_write 24 = .ok (.iload_n 2, 1) := by decide +kernel
theorem dX8_write_25 : decode cX8_write 25 = .ok (.iadd, 1) := by decide +kernel
theorem dX8_write_26 : decode cX8_write 26 = .ok (.istore_n 3, 1) := by decide +kernel
theorem dX8_write_27 : decode cX8_write 27 = .ok (.iconst 0, 1) := by decide +kernel
theorem dX8_write_28 : decode cX8_write 28 = .ok (.istore 4, 2) := by decide +kernel
theorem dX8_write_30 : decode cX8_write 30 = .ok (.iconst 0, 1) := by decide +kernel
theorem dX8_write_31 : decode cX8_write 31 = .ok (.istore 5, 2) := by decide +kernel
theorem dX8_write_33 : decode cX8_write 33 = .ok (.iload 5, 2) := by decide +kernel
theorem dX8_write_35 : decode cX8_write 35 = .ok (.aload_n 0, 1) := by decide +kernel
theorem dX8_write_36 : decode cX8_write 36 = .ok (.getfield 30, 3) := by decide +kernel
theorem dX8_write_39 : decode cX8_write 39 = .ok (.getfield 129, 3) := by decide +kernel
theorem dX8_write_42 : decode cX8_write 42 = .ok (.if_icmp .ge 35, 3) := by decide +kernel
theorem dX8_write_45 : decode cX8_write 45 = .ok (.iload 4, 2) := by decide +kernel
theorem dX8_write_47 : decode cX8_write 47 = .ok (.aload_n 0, 1) := by decide +kernel
theorem dX8_write_48 : decode cX8_write 48 = .ok (.getfield 30, 3) := by decide +kernel
theorem dX8_write_51 : decode cX8_write 51 = .ok (.getfield 132, 3) := by decide +kernel
theorem dX8_write_54 : decode cX8_write 54 = .ok (.iconst 2, 1) := by decide +kernel
theorem dX8_write_55 : decode cX8_write 55 = .ok (.iload 5, 2) := by decide +kernel
theorem dX8_write_57 : decode cX8_write 57 = .ok (.imul, 1) := by decide +kernel
theorem dX8_write_58 : decode cX8_write 58 = .ok (.iaload, 1) := by decide +kernel
theorem dX8_write_59 : decode cX8_write 59 = .ok (.iload_n 3, 1) := by decide +kernel
theorem dX8_write_60 : decode cX8_write 60 = .ok (.if_icmp .ne 7, 3) := by decide +kernel
theorem dX8_write_63 : decode cX8_write 63 = .ok (.iconst 1, 1) := by decide +kernel
theorem dX8_write_64 : decode cX8_write 64 = .ok (.goto 4, 3) := by decide +kernel
theorem dX8_write_67 : decode cX8_write 67 = .ok (.iconst 0, 1) := by decide +kernel
theorem dX8_write_68 : decode cX8_write 68 = .ok (.ior, 1) := by decide +kernel
theorem dX8_write_69 : decode cX8_write 69 = .ok (.istore 4, 2) := by decide +kernel
theorem dX8_write_71 : decode cX8_write 71 = .ok (.iinc 5 1, 3) := by decide +kernel
theorem dX8_write_74 : decode cX8_write 74 = .ok (.goto (-41), 3) := by decide +kernel
theorem dX8_write_77 : decode cX8_write 77 = .ok (.aload_n 0, 1) := by decide +kernel
theorem dX8_write_78 : decode cX8_write 78 = .ok (.getfield 30, 3) := by decide +kernel
theorem dX8_write_81 : decode cX8_write 81 = .ok (.getfield 126, 3) := by decide +kernel
theorem dX8_write_84 : decode cX8_write 84 = .ok (.iconst 4, 1) := by decide +kernel
theorem dX8_write_85 : decode cX8_write 85 = .ok (.iload_n 3, 1) := by decide +kernel
theorem dX8_write_86 : decode cX8_write 86 = .ok (.imul, 1) := by decide +kernel
theorem dX8_write_87 : decode cX8_write 87 = .ok (.iconst 3, 1) := by decide +kernel
theorem dX8_write_88 : decode cX8_write 88 = .ok (.iadd, 1) := by decide +kernel
theorem dX8_write_89 : decode cX8_write 89 = .ok (.iaload, 1) := by decide +kernel
theorem dX8_write_90 : decode cX8_write 90 = .ok (.iconst 1, 1) := by decide +kernel
theorem dX8_write_91 : decode cX8_write 91 = .ok (.if_icmp .eq 20, 3) := by decide +kernel
theorem dX8_write_94 : decode cX8_write 94 = .ok (.iload 4, 2) := by decide +kernel
theorem dX8_write_96 : decode cX8_write 96 = .ok (.ifCond .ne 15, 3) := by decide +kernel
theorem dX8_write_99 : decode cX8_write 99 = .ok (.aload_n 0, 1) := by decide +kernel
theorem dX8_write_100 : decode cX8_write 100 = .ok (.getfield 30, 3) := by decide +kernel
theorem dX8_write_103 : decode cX8_write 103 = .ok (.getfield 129, 3) := by decide +kernel
theorem dX8_write_106 : decode cX8_write 106 = .ok (.bipush 30, 2) := by decide +kernel
theorem dX8_write_108 : decode cX8_write 108 = .ok (.if_icmp .ne 9, 3) := by decide +kernel
theorem dX8_write_111 : decode cX8_write 111 = .ok (.aload_n 0, 1) := by decide +kernel
theorem dX8_write_112 : decode cX8_write 112 = .ok (.iconst 2, 1) := by decide +kernel
theorem dX8_write_113 : decode cX8_write 113 = .ok (.invokevirtual 82, 3) := by decide +kernel
theorem dX8_write_116 : decode cX8_write 116 = .ok (.ireturn, 1) := by decide +kernel
theorem dX8_write_117 : decode cX8_write 117 = .ok (.aload_n 0, 1) := by decide +kernel
theorem dX8_write_118 : decode cX8_write 118 = .ok (.getfield 30, 3) := by decide +kernel
theorem dX8_write_121 : decode cX8_write 121 = .ok (.getfield 98, 3) := by decide +kernel
theorem dX8_write_124 : decode cX8_write 124 = .ok (.bipush 24, 2) := by decide +kernel
theorem dX8_write_126 : decode cX8_write 126 = .ok (.aload_n 0, 1) := by decide +kernel
theorem dX8_write_127 : decode cX8_write 127 = .ok (.getfield 9, 3) := by decide +kernel
theorem dX8_write_130 : decode cX8_write 130 = .ok (.bipush 6, 2) := by decide +kernel
theorem dX8_write_132 : decode cX8_write 132 = .ok (.aload_n 0, 1) := by decide +kernel
theorem dX8_write_133 : decode cX8_write 133 = .ok (.getfield 30, 3) := by decide +kernel
theorem dX8_write_136 : decode cX8_write 136 = .ok (.getfield 126, 3) := by decide +kernel
theorem dX8_write_139 : decode cX8_write 139 = .ok (.iconst 4, 1) := by decide +kernel
theorem dX8_write_140 : decode cX8_write 140 = .ok (.iload_n 3, 1) := by decide +kernel
theorem dX8_write_141 : decode cX8_write 141 = .ok (.imul, 1) := by decide +kernel
theorem dX8_write_142 : decode cX8_write 142 = .ok (.iconst 1, 1) := by decide +kernel
theorem dX8_write_143 : decode cX8_write 143 = .ok (.iadd, 1) := by decide +kernel
theorem dX8_write_144 : decode cX8_write 144 = .ok (.iaload, 1) := by decide +kernel
theorem dX8_write_145 : decode cX8_write 145 = .ok (.imul, 1) := by decide +kernel
theorem dX8_write_146 : decode cX8_write 146 = .ok (.iconst 2, 1) := by decide +kernel
theorem dX8_write_147 : decode cX8_write 147 = .ok (.iadd, 1) := by decide +kernel
theorem dX8_write_148 : decode cX8_write 148 = .ok (.iaload, 1) := by decide +kernel
theorem dX8_write_149 : decode cX8_write 149 = .ok (.bipush 10, 2) := by decide +kernel
theorem dX8_write_151 : decode cX8_write 151 = .ok (.idiv, 1) := by decide +kernel
theorem dX8_write_152 : decode cX8_write 152 = .ok (.iconst 2, 1) := by decide +kernel
theorem dX8_write_153 : decode cX8_write 153 = .ok (.iadd, 1) := by decide +kernel
theorem dX8_write_154 : decode cX8_write 154 = .ok (.imul, 1) := by decide +kernel
theorem dX8_write_155 : decode cX8_write 155 = .ok (.iadd, 1) := by decide +kernel
theorem dX8_write_156 : decode cX8_write 156 = .ok (.istore 5, 2) := by decide +kernel
theorem dX8_write_158 : decode cX8_write 158 = .ok (.aload_n 0, 1) := by decide +kernel
theorem dX8_write_159 : decode cX8_write 159 = .ok (.getfield 30, 3) := by decide +kernel
theorem dX8_write_162 : decode cX8_write 162 = .ok (.getfield 132, 3) := by decide +kernel
theorem dX8_write_165 : decode cX8_write 165 = .ok (.iconst 2, 1) := by decide +kernel
theorem dX8_write_166 : decode cX8_write 166 = .ok (.aload_n 0, 1) := by decide +kernel
theorem dX8_write_167 : decode cX8_write 167 = .ok (.getfield 30, 3) := by decide +kernel
theorem dX8_write_170 : decode cX8_write 170 = .ok (.getfield 129, 3) := by decide +kernel
theorem dX8_write_173 : decode cX8_write 173 = .ok (.imul, 1) := by decide +kernel
theorem dX8_write_174 : decode cX8_write 174 = .ok (.iload_n 3, 1) := by decide +kernel
theorem dX8_write_175 : decode cX8_write 175 = .ok (.iastore, 1) := by decide +kernel
theorem dX8_write_176 : decode cX8_write 176 = .ok (.aload_n 0, 1) := by decide +kernel
theorem dX8_write_177 : decode cX8_write 177 = .ok (.getfield 30, 3) := by decide +kernel
theorem dX8_write_180 : decode cX8_write 180 = .ok (.getfield 132, 3) := by decide +kernel
theorem dX8_write_183 : decode cX8_write 183 = .ok (.iconst 2, 1) := by decide +kernel
theorem dX8_write_184 : decode cX8_write 184 = .ok (.aload_n 0, 1) := by decide +kernel
theorem dX8_write_185 : decode cX8_write 185 = .ok (.getfield 30, 3) := by decide +kernel
theorem dX8_write_188 : decode cX8_write 188 = .ok (.getfield 129, 3) := by decide +kernel
theorem dX8_write_191 : decode cX8_write 191 = .ok (.imul, 1) := by decide +kernel
theorem dX8_write_192 : decode cX8_write 192 = .ok (.iconst 1, 1) := by decide +kernel
theorem dX8_write_193 : decode cX8_write 193 = .ok (.iadd, 1) := by decide +kernel
theorem dX8_write_194 : decode cX8_write 194 = .ok (.iload 5, 2) := by decide +kernel
theorem dX8_write_196 : decode cX8_write 196 = .ok (.iastore, 1) := by decide +kernel
theorem dX8_write_197 : decode cX8_write 197 = .ok (.aload_n 0, 1) := by decide +kernel
theorem dX8_write_198 : decode cX8_write 198 = .ok (.getfield 30, 3) := by decide +kernel
theorem dX8_write_201 : decode cX8_write 201 = .ok (.dup, 1) := by decide +kernel
theorem dX8_write_202 : decode cX8_write 202 = .ok (.getfield 129, 3) := by decide +kernel
theorem dX8_write_205 : decode cX8_write 205 = .ok (.iconst 1, 1) := by decide +kernel
theorem dX8_write_206 : decode cX8_write 206 = .ok (.iadd, 1) := by decide +kernel
theorem dX8_write_207 : decode cX8_write 207 = .ok (.putfield 129, 3) := by decide +kernel
theorem dX8_write_210 : decode cX8_write 210 = .ok (.iload 5, 2) := by decide +kernel
theorem dX8_write_212 : decode cX8_write 212 = .ok (.ireturn, 1) := by decide +kernel
theorem dX8_pass_0 : decode cX8_pass 0 = .ok (.aload_n 0, 1) := by decide +kernel
theorem dX8_pass_1 : decode cX8_pass 1 = .ok (.iconst 0, 1) := by decide +kernel
theorem dX8_pass_2 : decode cX8_pass 2 = .ok (.putfield 37, 3) := by decide +kernel
theorem dX8_pass_5 : decode cX8_pass 5 = .ok (.iload_n 1, 1) := by decide +kernel
theorem dX8_pass_6 : decode cX8_pass 6 = .ok (.iconst 1, 1) := by decide +kernel
theorem dX8_pass_7 : decode cX8_pass 7 = .ok (.sipush 240, 3) := by decide +kernel
theorem dX8_pass_10 : decode cX8_pass 10 = .ok (.invokestatic 44, 3) := by decide +kernel
theorem dX8_pass_13 : decode cX8_pass 13 = .ok (.ifCond .ne 9, 3) := by decide +kernel
theorem dX8_pass_16 : decode cX8_pass 16 = .ok (.aload_n 0, 1) := by decide +kernel
theorem dX8_pass_17 : decode cX8_pass 17 = .ok (.iconst 1, 1) := by decide +kernel
theorem dX8_pass_18 : decode cX8_pass 18 = .ok (.invokevirtual 82, 3) := by decide +kernel
theorem dX8_pass_21 : decode cX8_pass 21 = .ok (.ireturn, 1) := by decide +kernel
theorem dX8_pass_22 : decode cX8_pass 22 = .ok (.aload_n 0, 1) := by decide +kernel
theorem dX8_pass_23 : decode cX8_pass 23 = .ok (.getfield 30, 3) := by decide +kernel
theorem dX8_pass_26 : decode cX8_pass 26 = .ok (.getfield 135, 3) := by decide +kernel
theorem dX8_pass_29 : decode cX8_pass 29 = .ok (.istore_n 2, 1) := by decide +kernel
theorem dX8_pass_30 : decode cX8_pass 30 = .ok (.aload_n 0, 1) := by decide +kernel
theorem dX8_pass_31 : decode cX8_pass 31 = .ok (.getfield 30, 3) := by decide +kernel
theorem dX8_pass_34 : decode cX8_pass 34 = .ok (.iload_n 1, 1) := by decide +kernel
theorem dX8_pass_35 : decode cX8_pass 35 = .ok (.invokevirtual 138, 3) := by decide +kernel
theorem dX8_pass_38 : decode cX8_pass 38 = .ok (.aload_n 0, 1) := by decide +kernel
theorem dX8_pass_39 : decode cX8_pass 39 = .ok (.getfield 30, 3) := by decide +kernel
theorem dX8_pass_42 : decode cX8_pass 42 = .ok (.getfield 135, 3) := by decide +kernel
theorem dX8_pass_45 : decode cX8_pass 45 = .ok (.iload_n 2, 1) := by decide +kernel
theorem dX8_pass_46 : decode cX8_pass 46 = .ok (.isub, 1) := by decide +kernel
theorem dX8_pass_47 : decode cX8_pass 47 = .ok (.ireturn, 1) := by decide +kernel
theorem dX8_counted_0 : decode cX8_counted 0 = .ok (.iconst 0, 1) := by decide +kernel
theorem dX8_counted_1 : decode cX8_counted 1 = .ok (.istore_n 2, 1) := by decide +kernel
theorem dX8_counted_2 : decode cX8_counted 2 = .ok (.iload_n 1, 1) := by decide +kernel
theorem dX8_counted_3 : decode cX8_counted 3 = .ok (.tableswitch 117 0 6 #[41, 49, 54, 69, 74, 101, 109], 41) := by decide +kernel
theorem dX8_counted_44 : decode cX8_counted 44 = .ok (.aload_n 0, 1) := by decide +kernel
theorem dX8_counted_45 : decode cX8_counted 45 = .ok (.getfield 30, 3) := by decide +kernel
theorem dX8_counted_48 : decode cX8_counted 48 = .ok (.getfield 98, 3) := by decide +kernel
theorem dX8_counted_51 : decode cX8_counted 51 = .ok (.ireturn, 1) := by decide +kernel
theorem dX8_counted_52 : decode cX8_counted 52 = .ok (.aload_n 0, 1) := by decide +kernel
theorem dX8_counted_53 : decode cX8_counted 53 = .ok (.getfield 41, 3) := by decide +kernel
theorem dX8_counted_56 : decode cX8_counted 56 = .ok (.ireturn, 1) := by decide +kernel
theorem dX8_counted_57 : decode cX8_counted 57 = .ok (.aload_n 0, 1) := by decide +kernel
theorem dX8_counted_58 : decode cX8_counted 58 = .ok (.aload_n 0, 1) := by decide +kernel
theorem dX8_counted_59 : decode cX8_counted 59 = .ok (.getfield 30, 3) := by decide +kernel
theorem dX8_counted_62 : decode cX8_counted 62 = .ok (.getfield 98, 3) := by decide +kernel
theorem dX8_counted_65 : decode cX8_counted 65 = .ok (.invokevirtual 101, 3) := by decide +kernel
theorem dX8_counted_68 : decode cX8_counted 68 = .ok (.invokestatic 142, 3) := by decide +kernel
theorem dX8_counted_71 : decode cX8_counted 71 = .ok (.ireturn, 1) := by decide +kernel
theorem dX8_counted_72 : decode cX8_counted 72 = .ok (.aload_n 0, 1) := by decide +kernel
theorem dX8_counted_73 : decode cX8_counted 73 = .ok (.getfield 48, 3) := by decide +kernel
theorem dX8_counted_76 : decode cX8_counted 76 = .ok (.ireturn, 1) := by decide +kernel
theorem dX8_counted_77 : decode cX8_counted 77 = .ok (.iconst 0, 1) := by decide +kernel
theorem dX8_counted_78 : decode cX8_counted 78 = .ok (.istore_n 3, 1) := by decide +kernel
theorem dX8_counted_79 : decode cX8_counted 79 = .ok (.iload_n 3, 1) := by decide +kernel
theorem dX8_counted_80 : decode cX8_counted 80 = .ok (.aload_n 0, 1) := by decide +kernel
theorem dX8_counted_81 : decode cX8_counted 81 = .ok (.getfield 48, 3) := by decide +kernel
theorem dX8_counted_84 : decode cX8_counted 84 = .ok (.if_icmp .ge 18, 3) := by decide +kernel
theorem dX8_counted_87 : decode cX8_counted 87 = .ok (.iload_n 2, 1) := by decide +kernel
theorem dX8_counted_88 : decode cX8_counted 88 = .ok (.aload_n 0, 1) := by decide +kernel
theorem dX8_counted_89 : decode cX8_counted 89 = .ok (.getfield 22, 3) := by decide +kernel
theorem dX8_counted_92 : decode cX8_counted 92 = .ok (.iload_n 3, 1) := by decide +kernel
theorem dX8_counted_93 : decode cX8_counted 93 = .ok (.iaload, 1) := by decide +kernel
theorem dX8_counted_94 : decode cX8_counted 94 = .ok (.iadd, 1) := by decide +kernel
theorem dX8_counted_95 : decode cX8_counted 95 = .ok (.istore_n 2, 1) := by decide +kernel
theorem dX8_counted_96 : decode cX8_counted 96 = .ok (.iinc 3 1, 3) := by decide +kernel
theorem dX8_counted_99 : decode cX8_counted 99 = .ok (.goto (-20), 3) := by decide +kernel
theorem dX8_counted_102 : decode cX8_counted 102 = .ok (.iload_n 2, 1) := by decide +kernel
theorem dX8_counted_103 : decode cX8_counted 103 = .ok (.ireturn, 1) := by decide +kernel
theorem dX8_counted_104 : decode cX8_counted 104 = .ok (.aload_n 0, 1) := by decide +kernel
theorem dX8_counted_105 : decode cX8_counted 105 = .ok (.getfield 30, 3) := by decide +kernel
theorem dX8_counted_108 : decode cX8_counted 108 = .ok (.getfield 135, 3) := by decide +kernel
theorem dX8_counted_111 : decode cX8_counted 111 = .ok (.ireturn, 1) := by decide +kernel
theorem dX8_counted_112 : decode cX8_counted 112 = .ok (.aload_n 0, 1) := by decide +kernel
theorem dX8_counted_113 : decode cX8_counted 113 = .ok (.getfield 30, 3) := by decide +kernel
theorem dX8_counted_116 : decode cX8_counted 116 = .ok (.getfield 147, 3) := by decide +kernel
theorem dX8_counted_119 : decode cX8_counted 119 = .ok (.ireturn, 1) := by decide +kernel
theorem dX8_counted_120 : decode cX8_counted 120 = .ok (.aload_n 0, 1) := by decide +kernel
theorem dX8_counted_121 : decode cX8_counted 121 = .ok (.getfield 30, 3) := by decide +kernel
theorem dX8_counted_124 : decode cX8_counted 124 = .ok (.getfield 129, 3) := by decide +kernel
theorem dX8_counted_127 : decode cX8_counted 127 = .ok (.ireturn, 1) := by decide +kernel
theorem dX8_count_0 : decode cX8_count 0 = .ok (.aload_n 0, 1) := by decide +kernel
theorem dX8_count_1 : decode cX8_count 1 = .ok (.iconst 0, 1) := by decide +kernel
theorem dX8_count_2 : decode cX8_count 2 = .ok (.putfield 37, 3) := by decide +kernel
theorem dX8_count_5 : decode cX8_count 5 = .ok (.iload_n 1, 1) := by decide +kernel
theorem dX8_count_6 : decode cX8_count 6 = .ok (.iconst 0, 1) := by decide +kernel
theorem dX8_count_7 : decode cX8_count 7 = .ok (.bipush 7, 2) := by decide +kernel
theorem dX8_count_9 : decode cX8_count 9 = .ok (.invokestatic 44, 3) := by decide +kernel
theorem dX8_count_12 : decode cX8_count 12 = .ok (.ifCond .eq 11, 3) := by decide +kernel
theorem dX8_count_15 : decode cX8_count 15 = .ok (.aload_n 0, 1) := by decide +kernel
theorem dX8_count_16 : decode cX8_count 16 = .ok (.iload_n 1, 1) := by decide +kernel
theorem dX8_count_17 : decode cX8_count 17 = .ok (.invokevirtual 150, 3) := by decide +kernel
theorem dX8_count_20 : decode cX8_count 20 = .ok (.goto 8, 3) := by decide +kernel
theorem dX8_count_23 : decode cX8_count 23 = .ok (.aload_n 0, 1) := by decide +kernel
theorem dX8_count_24 : decode cX8_count 24 = .ok (.iconst 1, 1) := by decide +kernel
theorem dX8_count_25 : decode cX8_count 25 = .ok (.invokevirtual 82, 3) := by decide +kernel
theorem dX8_count_28 : decode cX8_count 28 = .ok (.ireturn, 1) := by decide +kernel
theorem dX8_leads_0 : decode cX8_leads 0 = .ok (.aload_n 0, 1) := by decide +kernel
theorem dX8_leads_1 : decode cX8_leads 1 = .ok (.iload_n 1, 1) := by decide +kernel
theorem dX8_leads_2 : decode cX8_leads 2 = .ok (.iconst 1, 1) := by decide +kernel
theorem dX8_leads_3 : decode cX8_leads 3 = .ok (.invokevirtual 113, 3) := by decide +kernel
theorem dX8_leads_6 : decode cX8_leads 6 = .ok (.aload_n 0, 1) := by decide +kernel
theorem dX8_leads_7 : decode cX8_leads 7 = .ok (.iload_n 2, 1) := by decide +kernel
theorem dX8_leads_8 : decode cX8_leads 8 = .ok (.iconst 1, 1) := by decide +kernel
theorem dX8_leads_9 : decode cX8_leads 9 = .ok (.invokevirtual 113, 3) := by decide +kernel
theorem dX8_leads_12 : decode cX8_leads 12 = .ok (.isub, 1) := by decide +kernel
theorem dX8_leads_13 : decode cX8_leads 13 = .ok (.istore_n 3, 1) := by decide +kernel
theorem dX8_leads_14 : decode cX8_leads 14 = .ok (.iload_n 3, 1) := by decide +kernel
theorem dX8_leads_15 : decode cX8_leads 15 = .ok (.ifCond .eq 13, 3) := by decide +kernel
theorem dX8_leads_18 : decode cX8_leads 18 = .ok (.iload_n 3, 1) := by decide +kernel
theorem dX8_leads_19 : decode cX8_leads 19 = .ok (.ifCond .le 7, 3) := by decide +kernel
theorem dX8_leads_22 : decode cX8_leads 22 = .ok (.iconst 1, 1) := by decide +kernel
theorem dX8_leads_23 : decode cX8_leads 23 = .ok (.goto 4, 3) := by decide +kernel
theorem dX8_leads_26 : decode cX8_leads 26 = .ok (.iconst 0, 1) := by decide +kernel
theorem dX8_leads_27 : decode cX8_leads 27 = .ok (.ireturn, 1) := by decide +kernel
theorem dX8_leads_28 : decode cX8_leads 28 = .ok (.aload_n 0, 1) := by decide +kernel
theorem dX8_leads_29 : decode cX8_leads 29 = .ok (.getfield 30, 3) := by decide +kernel
theorem dX8_leads_32 : decode cX8_leads 32 = .ok (.getfield 55, 3) := by decide +kernel
theorem dX8_leads_35 : decode cX8_leads 35 = .ok (.iload_n 1, 1) := by decide +kernel
theorem dX8_leads_36 : decode cX8_leads 36 = .ok (.iaload, 1) := by decide +kernel
theorem dX8_leads_37 : decode cX8_leads 37 = .ok (.aload_n 0, 1) := by decide +kernel
theorem dX8_leads_38 : decode cX8_leads 38 = .ok (.getfield 30, 3) := by decide +kernel
theorem dX8_leads_41 : decode cX8_leads 41 = .ok (.getfield 55, 3) := by decide +kernel
theorem dX8_leads_44 : decode cX8_leads 44 = .ok (.iload_n 2, 1) := by decide +kernel
theorem dX8_leads_45 : decode cX8_leads 45 = .ok (.iaload, 1) := by decide +kernel
theorem dX8_leads_46 : decode cX8_leads 46 = .ok (.if_icmp .eq 32, 3) := by decide +kernel
theorem dX8_leads_49 : decode cX8_leads 49 = .ok (.aload_n 0, 1) := by decide +kernel
theorem dX8_leads_50 : decode cX8_leads 50 = .ok (.getfield 30, 3) := by decide +kernel
theorem dX8_leads_53 : decode cX8_leads 53 = .ok (.getfield 55, 3) := by decide +kernel
theorem dX8_leads_56 : decode cX8_leads 56 = .ok (.iload_n 1, 1) := by decide +kernel
theorem dX8_leads_57 : decode cX8_leads 57 = .ok (.iaload, 1) := by decide +kernel
theorem dX8_leads_58 : decode cX8_leads 58 = .ok (.aload_n 0, 1) := by decide +kernel
theorem dX8_leads_59 : decode cX8_leads 59 = .ok (.getfield 30, 3) := by decide +kernel
theorem dX8_leads_62 : decode cX8_leads 62 = .ok (.getfield 55, 3) := by decide +kernel
theorem dX8_leads_65 : decode cX8_leads 65 = .ok (.iload_n 2, 1) := by decide +kernel
theorem dX8_leads_66 : decode cX8_leads 66 = .ok (.iaload, 1) := by decide +kernel
theorem dX8_leads_67 : decode cX8_leads 67 = .ok (.if_icmp .le 7, 3) := by decide +kernel
theorem dX8_leads_70 : decode cX8_leads 70 = .ok (.iconst 1, 1) := by decide +kernel
theorem dX8_leads_71 : decode cX8_leads 71 = .ok (.goto 17, 3) := by decide +kernel
theorem dX8_leads_74 : decode cX8_leads 74 = .ok (.iconst 0, 1) := by decide +kernel
theorem dX8_leads_75 : decode cX8_leads 75 = .ok (.goto 13, 3) := by decide +kernel
theorem dX8_leads_78 : decode cX8_leads 78 = .ok (.iload_n 1, 1) := by decide +kernel
theorem dX8_leads_79 : decode cX8_leads 79 = .ok (.iload_n 2, 1) := by decide +kernel
theorem dX8_leads_80 : decode cX8_leads 80 = .ok (.if_icmp .ge 7, 3) := by decide +kernel
theorem dX8_leads_83 : decode cX8_leads 83 = .ok (.iconst 1, 1) := by decide +kernel
theorem dX8_leads_84 : decode cX8_leads 84 = .ok (.goto 4, 3) := by decide +kernel
theorem dX8_leads_87 : decode cX8_leads 87 = .ok (.iconst 0, 1) := by decide +kernel
theorem dX8_leads_88 : decode cX8_leads 88 = .ok (.ireturn, 1) := by decide +kernel
theorem dX8_rank_0 : decode cX8_rank 0 = .ok (.aload_n 0, 1) := by decide +kernel
theorem dX8_rank_1 : decode cX8_rank 1 = .ok (.iconst 0, 1) := by decide +kernel
theorem dX8_rank_2 : decode cX8_rank 2 = .ok (.putfield 37, 3) := by decide +kernel
theorem dX8_rank_5 : decode cX8_rank 5 = .ok (.aload_n 0, 1) := by decide +kernel
theorem dX8_rank_6 : decode cX8_rank 6 = .ok (.iload_n 1, 1) := by decide +kernel
theorem dX8_rank_7 : decode cX8_rank 7 = .ok (.invokevirtual 51, 3) := by decide +kernel
theorem dX8_rank_10 : decode cX8_rank 10 = .ok (.ifCond .ne 9, 3) := by decide +kernel
theorem dX8_rank_13 : decode cX8_rank 13 = .ok (.aload_n 0, 1) := by decide +kernel
theorem dX8_rank_14 : decode cX8_rank 14 = .ok (.iconst 1, 1) := by decide +kernel
theorem dX8_rank_15 : decode cX8_rank 15 = .ok (.invokevirtual 82, 3) := by decide +kernel
theorem dX8_rank_18 : decode cX8_rank 18 = .ok (.ireturn, 1) := by decide +kernel
theorem dX8_rank_19 : decode cX8_rank 19 = .ok (.iconst 0, 1) := by decide +kernel
theorem dX8_rank_20 : decode cX8_rank 20 = .ok (.istore_n 2, 1) := by decide +kernel
theorem dX8_rank_21 : decode cX8_rank 21 = .ok (.iload_n 2, 1) := by decide +kernel
theorem dX8_rank_22 : decode cX8_rank 22 = .ok (.aload_n 0, 1) := by decide +kernel
theorem dX8_rank_23 : decode cX8_rank 23 = .ok (.getfield 48, 3) := by decide +kernel
theorem dX8_rank_26 : decode cX8_rank 26 = .ok (.if_icmp .ge 60, 3) := by decide +kernel
theorem dX8_rank_29 : decode cX8_rank 29 = .ok (.iconst 0, 1) := by decide +kernel
theorem dX8_rank_30 : decode cX8_rank 30 = .ok (.istore_n 3, 1) := by decide +kernel
theorem dX8_rank_31 : decode cX8_rank 31 = .ok (.iconst 0, 1) := by decide +kernel
theorem dX8_rank_32 : decode cX8_rank 32 = .ok (.istore 4, 2) := by decide +kernel
theorem dX8_rank_34 : decode cX8_rank 34 = .ok (.iload 4, 2) := by decide +kernel
theorem dX8_rank_36 : decode cX8_rank 36 = .ok (.aload_n 0, 1) := by decide +kernel
theorem dX8_rank_37 : decode cX8_rank 37 = .ok (.getfield 48, 3) := by decide +kernel
theorem dX8_rank_40 : decode cX8_rank 40 = .ok (.if_icmp .ge 33, 3) := by decide +kernel
theorem dX8_rank_43 : decode cX8_rank 43 = .ok (.iload_n 3, 1) := by decide +kernel
theorem dX8_rank_44 : decode cX8_rank 44 = .ok (.iload 4, 2) := by decide +kernel
theorem dX8_rank_46 : decode cX8_rank 46 = .ok (.iload_n 2, 1) := by decide +kernel
theorem dX8_rank_47 : decode cX8_rank 47 = .ok (.if_icmp .eq 17, 3) := by decide +kernel
theorem dX8_rank_50 : decode cX8_rank 50 = .ok (.aload_n 0, 1) := by decide +kernel
theorem dX8_rank_51 : decode cX8_rank 51 = .ok (.iload 4, 2) := by decide +kernel
theorem dX8_rank_53 : decode cX8_rank 53 = .ok (.iload_n 2, 1) := by decide +kernel
theorem dX8_rank_54 : decode cX8_rank 54 = .ok (.invokevirtual 153, 3) := by decide +kernel
theorem dX8_rank_57 : decode cX8_rank 57 = .ok (.ifCond .eq 7, 3) := by decide +kernel
theorem dX8_rank_60 : decode cX8_rank 60 = .ok (.iconst 1, 1) := by decide +kernel
theorem dX8_rank_61 : decode cX8_rank 61 = .ok (.goto 4, 3) := by decide +kernel
theorem dX8_rank_64 : decode cX8_rank 64 = .ok (.iconst 0, 1) := by decide +kernel
theorem dX8_rank_65 : decode cX8_rank 65 = .ok (.iadd, 1) := by decide +kernel
theorem dX8_rank_66 : decode cX8_rank 66 = .ok (.istore_n 3, 1) := by decide +kernel
theorem dX8_rank_67 : decode cX8_rank 67 = .ok (.iinc 4 1, 3) := by decide +kernel
theorem dX8_rank_70 : decode cX8_rank 70 = .ok (.goto (-36), 3) := by decide +kernel
theorem dX8_rank_73 : decode cX8_rank 73 = .ok (.iload_n 3, 1) := by decide +kernel
theorem dX8_rank_74 : decode cX8_rank 74 = .ok (.iload_n 1, 1) := by decide +kernel
theorem dX8_rank_75 : decode cX8_rank 75 = .ok (.if_icmp .ne 5, 3) := by decide +kernel
theorem dX8_rank_78 : decode cX8_rank 78 = .ok (.iload_n 2, 1) := by decide +kernel
theorem dX8_rank_79 : decode cX8_rank 79 = .ok (.ireturn, 1) := by decide +kernel
theorem dX8_rank_80 : decode cX8_rank 80 = .ok (.iinc 2 1, 3) := by decide +kernel
theorem dX8_rank_83 : decode cX8_rank 83 = .ok (.goto (-62), 3) := by decide +kernel
theorem dX8_rank_86 : decode cX8_rank 86 = .ok (.iconst (-1), 1) := by decide +kernel
theorem dX8_rank_87 : decode cX8_rank 87 = .ok (.ireturn, 1) := by decide +kernel
theorem dX8_dial_0 : decode cX8_dial 0 = .ok (.aload_n 0, 1) := by decide +kernel
theorem dX8_dial_1 : decode cX8_dial 1 = .ok (.iconst 0, 1) := by decide +kernel
theorem dX8_dial_2 : decode cX8_dial 2 = .ok (.putfield 37, 3) := by decide +kernel
theorem dX8_dial_5 : decode cX8_dial 5 = .ok (.aload_n 0, 1) := by decide +kernel
theorem dX8_dial_6 : decode cX8_dial 6 = .ok (.iload_n 1, 1) := by decide +kernel
theorem dX8_dial_7 : decode cX8_dial 7 = .ok (.invokevirtual 51, 3) := by decide +kernel
theorem dX8_dial_10 : decode cX8_dial 10 = .ok (.ifCond .eq 11, 3) := by decide +kernel
theorem dX8_dial_13 : decode cX8_dial 13 = .ok (.aload_n 0, 1) := by decide +kernel
theorem dX8_dial_14 : decode cX8_dial 14 = .ok (.iload_n 2, 1) := by decide +kernel
theorem dX8_dial_15 : decode cX8_dial 15 = .ok (.invokevirtual 107, 3) := by decide +kernel
theorem dX8_dial_18 : decode cX8_dial 18 = .ok (.ifCond .ne 9, 3) := by decide +kernel
theorem dX8_dial_21 : decode cX8_dial 21 = .ok (.aload_n 0, 1) := by decide +kernel
theorem dX8_dial_22 : decode cX8_dial 22 = .ok (.iconst 1, 1) := by decide +kernel
theorem dX8_dial_23 : decode cX8_dial 23 = .ok (.invokevirtual 82, 3) := by decide +kernel
theorem dX8_dial_26 : decode cX8_dial 26 = .ok (.ireturn, 1) := by decide +kernel
theorem dX8_dial_27 : decode cX8_dial 27 = .ok (.aload_n 0, 1) := by decide +kernel
theorem dX8_dial_28 : decode cX8_dial 28 = .ok (.aload_n 0, 1) := by decide +kernel
theorem dX8_dial_29 : decode cX8_dial 29 = .ok (.getfield 30, 3) := by decide +kernel
theorem dX8_dial_32 : decode cX8_dial 32 = .ok (.getfield 98, 3) := by decide +kernel
theorem dX8_dial_35 : decode cX8_dial 35 = .ok (.invokevirtual 101, 3) := by decide +kernel
theorem dX8_dial_38 : decode cX8_dial 38 = .ok (.istore_n 3, 1) := by decide +kernel
theorem dX8_dial_39 : decode cX8_dial 39 = .ok (.iconst (-1), 1) := by decide +kernel
theorem dX8_dial_40 : decode cX8_dial 40 = .ok (.istore 4, 2) := by decide +kernel
theorem dX8_dial_42 : decode cX8_dial 42 = .ok (.iconst 0, 1) := by decide +kernel
theorem dX8_dial_43 : decode cX8_dial 43 = .ok (.istore 5, 2) := by decide +kernel
theorem dX8_dial_45 : decode cX8_dial 45 = .ok (.iconst 0, 1) := by decide +kernel
theorem dX8_dial_46 : decode cX8_dial 46 = .ok (.istore 6, 2) := by decide +kernel
theorem dX8_dial_48 : decode cX8_dial 48 = .ok (.iload 6, 2) := by decide +kernel
theorem dX8_dial_50 : decode cX8_dial 50 = .ok (.bipush 100, 2) := by decide +kernel
theorem dX8_dial_52 : decode cX8_dial 52 = .ok (.if_icmp .gt 96, 3) := by decide +kernel
theorem dX8_dial_55 : decode cX8_dial 55 = .ok (.aload_n 0, 1) := by decide +kernel
theorem dX8_dial_56 : decode cX8_dial 56 = .ok (.iload_n 1, 1) := by decide +kernel
theorem dX8_dial_57 : decode cX8_dial 57 = .ok (.aload_n 0, 1) := by decide +kernel
theorem dX8_dial_58 : decode cX8_dial 58 = .ok (.getfield 30, 3) := by decide +kernel
theorem dX8_dial_61 : decode cX8_dial 61 = .ok (.getfield 98, 3) := by decide +kernel
theorem dX8_dial_64 : decode cX8_dial 64 = .ok (.aload_n 0, 1) := by decide +kernel
theorem dX8_dial_65 : decode cX8_dial 65 = .ok (.getfield 13, 3) := by decide +kernel
theorem dX8_dial_68 : decode cX8_dial 68 = .ok (.iload_n 1, 1) := by decide +kernel
theorem dX8_dial_69 : decode cX8_dial 69 = .ok (.iaload, 1) := by decide +kernel
theorem dX8_dial_70 : decode cX8_dial 70 = .ok (.iload 6, 2) := by decide +kernel
theorem dX8_dial_72 : decode cX8_dial 72 = .ok (.aload_n 0, 1) := by decide +kernel
theorem dX8_dial_73 : decode cX8_dial 73 = .ok (.getfield 30, 3) := by decide +kernel
theorem dX8_dial_76 : decode cX8_dial 76 = .ok (.getfield 91, 3) := by decide +kernel
theorem dX8_dial_79 : decode cX8_dial 79 = .ok (.iload_n 1, 1) := by decide +kernel
theorem dX8_dial_80 : decode cX8_dial 80 = .ok (.iaload, 1) := by decide +kernel
theorem dX8_dial_81 : decode cX8_dial 81 = .ok (.iload_n 3, 1) := by decide +kernel
theorem dX8_dial_82 : decode cX8_dial 82 = .ok (.invokevirtual 120, 3) := by decide +kernel
theorem dX8_dial_85 : decode cX8_dial 85 = .ok (.iload_n 2, 1) := by decide +kernel
theorem dX8_dial_86 : decode cX8_dial 86 = .ok (.if_icmp .eq 6, 3) := by decide +kernel
theorem dX8_dial_89 : decode cX8_dial 89 = .ok (.goto 53, 3) := by decide +kernel
theorem dX8_dial_92 : decode cX8_dial 92 = .ok (.aload_n 0, 1) := by decide +kernel
theorem dX8_dial_93 : decode cX8_dial 93 = .ok (.iload_n 1, 1) := by decide +kernel
theorem dX8_dial_94 : decode cX8_dial 94 = .ok (.iload_n 2, 1) := by decide +kernel
theorem dX8_dial_95 : decode cX8_dial 95 = .ok (.aload_n 0, 1) := by decide +kernel
theorem dX8_dial_96 : decode cX8_dial 96 = .ok (.getfield 30, 3) := by decide +kernel
theorem dX8_dial_99 : decode cX8_dial 99 = .ok (.getfield 98, 3) := by decide +kernel
theorem dX8_dial_102 : decode cX8_dial 102 = .ok (.aload_n 0, 1) := by decide +kernel
theorem dX8_dial_103 : decode cX8_dial 103 = .ok (.getfield 13, 3) := by decide +kernel
theorem dX8_dial_106 : decode cX8_dial 106 = .ok (.iload_n 1, 1) := by decide +kernel
theorem dX8_dial_107 : decode cX8_dial 107 = .ok (.iaload, 1) := by decide +kernel
theorem dX8_dial_108 : decode cX8_dial 108 = .ok (.iload 6, 2) := by decide +kernel
theorem dX8_dial_110 : decode cX8_dial 110 = .ok (.aload_n 0, 1) := by decide +kernel
theorem dX8_dial_111 : decode cX8_dial 111 = .ok (.getfield 30, 3) := by decide +kernel
theorem dX8_dial_114 : decode cX8_dial 114 = .ok (.getfield 91, 3) := by decide +kernel
theorem dX8_dial_117 : decode cX8_dial 117 = .ok (.iload_n 1, 1) := by decide +kernel
theorem dX8_dial_118 : decode cX8_dial 118 = .ok (.iaload, 1) := by decide +kernel
theorem dX8_dial_119 : decode cX8_dial 119 = .ok (.invokevirtual 78, 3) := by decide +kernel
theorem dX8_dial_122 : decode cX8_dial 122 = .ok (.istore 7, 2) := by decide +kernel
theorem dX8_dial_124 : decode cX8_dial 124 = .ok (.iload 7, 2) := by decide +kernel
theorem dX8_dial_126 : decode cX8_dial 126 = .ok (.iload 5, 2) := by decide +kernel
theorem dX8_dial_128 : decode cX8_dial 128 = .ok (.if_icmp .gt 6, 3) := by decide +kernel
theorem dX8_dial_131 : decode cX8_dial 131 = .ok (.goto 11, 3) := by decide +kernel
theorem dX8_dial_134 : decode cX8_dial 134 = .ok (.iload 7, 2) := by decide +kernel
theorem dX8_dial_136 : decode cX8_dial 136 = .ok (.istore 5, 2) := by decide +kernel
theorem dX8_dial_138 : decode cX8_dial 138 = .ok (.iload 6, 2) := by decide +kernel
theorem dX8_dial_140 : decode cX8_dial 140 = .ok (.istore 4, 2) := by decide +kernel
theorem dX8_dial_142 : decode cX8_dial 142 = .ok (.iinc 6 1, 3) := by decide +kernel
theorem dX8_dial_145 : decode cX8_dial 145 = .ok (.goto (-97), 3) := by decide +kernel
theorem dX8_dial_148 : decode cX8_dial 148 = .ok (.iload 4, 2) := by decide +kernel
theorem dX8_dial_150 : decode cX8_dial 150 = .ok (.ireturn, 1) := by decide +kernel
theorem dX8_next_0 : decode cX8_next 0 = .ok (.aload_n 0, 1) := by decide +kernel
theorem dX8_next_1 : decode cX8_next 1 = .ok (.iconst 0, 1) := by decide +kernel
theorem dX8_next_2 : decode cX8_next 2 = .ok (.putfield 37, 3) := by decide +kernel
theorem dX8_next_5 : decode cX8_next 5 = .ok (.aload_n 0, 1) := by decide +kernel
theorem dX8_next_6 : decode cX8_next 6 = .ok (.iload_n 1, 1) := by decide +kernel
theorem dX8_next_7 : decode cX8_next 7 = .ok (.invokevirtual 51, 3) := by decide +kernel
theorem dX8_next_10 : decode cX8_next 10 = .ok (.ifCond .eq 11, 3) := by decide +kernel
theorem dX8_next_13 : decode cX8_next 13 = .ok (.aload_n 0, 1) := by decide +kernel
theorem dX8_next_14 : decode cX8_next 14 = .ok (.iload_n 2, 1) := by decide +kernel
theorem dX8_next_15 : decode cX8_next 15 = .ok (.invokevirtual 107, 3) := by decide +kernel
theorem dX8_next_18 : decode cX8_next 18 = .ok (.ifCond .ne 9, 3) := by decide +kernel
theorem dX8_next_21 : decode cX8_next 21 = .ok (.aload_n 0, 1) := by decide +kernel
theorem dX8_next_22 : decode cX8_next 22 = .ok (.iconst 1, 1) := by decide +kernel
theorem dX8_next_23 : decode cX8_next 23 = .ok (.invokevirtual 82, 3) := by decide +kernel
theorem dX8_next_26 : decode cX8_next 26 = .ok (.ireturn, 1) := by decide +kernel
theorem dX8_next_27 : decode cX8_next 27 = .ok (.iconst 0, 1) := by decide +kernel
theorem dX8_next_28 : decode cX8_next 28 = .ok (.istore_n 3, 1) := by decide +kernel
theorem dX8_next_29 : decode cX8_next 29 = .ok (.iload_n 3, 1) := by decide +kernel
theorem dX8_next_30 : decode cX8_next 30 = .ok (.bipush 96, 2) := by decide +kernel
theorem dX8_next_32 : decode cX8_next 32 = .ok (.if_icmp .gt 60, 3) := by decide +kernel
theorem dX8_next_35 : decode cX8_next 35 = .ok (.aload_n 0, 1) := by decide +kernel
theorem dX8_next_36 : decode cX8_next 36 = .ok (.getfield 30, 3) := by decide +kernel
theorem dX8_next_39 : decode cX8_next 39 = .ok (.getfield 98, 3) := by decide +kernel
theorem dX8_next_42 : decode cX8_next 42 = .ok (.iload_n 3, 1) := by decide +kernel
theorem dX8_next_43 : decode cX8_next 43 = .ok (.iadd, 1) := by decide +kernel
theorem dX8_next_44 : decode cX8_next 44 = .ok (.istore 4, 2) := by decide +kernel
theorem dX8_next_46 : decode cX8_next 46 = .ok (.aload_n 0, 1) := by decide +kernel
theorem dX8_next_47 : decode cX8_next 47 = .ok (.iload_n 1, 1) := by decide +kernel
theorem dX8_next_48 : decode cX8_next 48 = .ok (.iload 4, 2) := by decide +kernel
theorem dX8_next_50 : decode cX8_next 50 = .ok (.aload_n 0, 1) := by decide +kernel
theorem dX8_next_51 : decode cX8_next 51 = .ok (.getfield 13, 3) := by decide +kernel
theorem dX8_next_54 : decode cX8_next 54 = .ok (.iload_n 1, 1) := by decide +kernel
theorem dX8_next_55 : decode cX8_next 55 = .ok (.iaload, 1) := by decide +kernel
theorem dX8_next_56 : decode cX8_next 56 = .ok (.aload_n 0, 1) := by decide +kernel
theorem dX8_next_57 : decode cX8_next 57 = .ok (.getfield 16, 3) := by decide +kernel
theorem dX8_next_60 : decode cX8_next 60 = .ok (.iload_n 1, 1) := by decide +kernel
theorem dX8_next_61 : decode cX8_next 61 = .ok (.iaload, 1) := by decide +kernel
theorem dX8_next_62 : decode cX8_next 62 = .ok (.aload_n 0, 1) := by decide +kernel
theorem dX8_next_63 : decode cX8_next 63 = .ok (.getfield 30, 3) := by decide +kernel
theorem dX8_next_66 : decode cX8_next 66 = .ok (.getfield 91, 3) := by decide +kernel
theorem dX8_next_69 : decode cX8_next 69 = .ok (.iload_n 1, 1) := by decide +kernel
theorem dX8_next_70 : decode cX8_next 70 = .ok (.iaload, 1) := by decide +kernel
theorem dX8_next_71 : decode cX8_next 71 = .ok (.aload_n 0, 1) := by decide +kernel
theorem dX8_next_72 : decode cX8_next 72 = .ok (.iload 4, 2) := by decide +kernel
theorem dX8_next_74 : decode cX8_next 74 = .ok (.invokevirtual 101, 3) := by decide +kernel
theorem dX8_next_77 : decode cX8_next 77 = .ok (.invokevirtual 120, 3) := by decide +kernel
theorem dX8_next_80 : decode cX8_next 80 = .ok (.iload_n 2, 1) := by decide +kernel
theorem dX8_next_81 : decode cX8_next 81 = .ok (.if_icmp .ne 5, 3) := by decide +kernel
theorem dX8_next_84 : decode cX8_next 84 = .ok (.iload_n 3, 1) := by decide +kernel
theorem dX8_next_85 : decode cX8_next 85 = .ok (.ireturn, 1) := by decide +kernel
theorem dX8_next_86 : decode cX8_next 86 = .ok (.iinc 3 1, 3) := by decide +kernel
theorem dX8_next_89 : decode cX8_next 89 = .ok (.goto (-60), 3) := by decide +kernel
theorem dX8_next_92 : decode cX8_next 92 = .ok (.iconst (-1), 1) := by decide +kernel
theorem dX8_next_93 : decode cX8_next 93 = .ok (.ireturn, 1) := by decide +kernel
theorem dX8_apart_0 : decode cX8_apart 0 = .ok (.aload_n 0, 1) := by decide +kernel
theorem dX8_apart_1 : decode cX8_apart 1 = .ok (.iconst 0, 1) := by decide +kernel
theorem dX8_apart_2 : decode cX8_apart 2 = .ok (.putfield 37, 3) := by decide +kernel
theorem dX8_apart_5 : decode cX8_apart 5 = .ok (.aload_n 0, 1) := by decide +kernel
theorem dX8_apart_6 : decode cX8_apart 6 = .ok (.iload_n 1, 1) := by decide +kernel
theorem dX8_apart_7 : decode cX8_apart 7 = .ok (.invokevirtual 51, 3) := by decide +kernel
theorem dX8_apart_10 : decode cX8_apart 10 = .ok (.ifCond .eq 19, 3) := by decide +kernel
theorem dX8_apart_13 : decode cX8_apart 13 = .ok (.aload_n 0, 1) := by decide +kernel
theorem dX8_apart_14 : decode cX8_apart 14 = .ok (.iload_n 2, 1) := by decide +kernel
theorem dX8_apart_15 : decode cX8_apart 15 = .ok (.invokevirtual 107, 3) := by decide +kernel
theorem dX8_apart_18 : decode cX8_apart 18 = .ok (.ifCond .eq 11, 3) := by decide +kernel
theorem dX8_apart_21 : decode cX8_apart 21 = .ok (.aload_n 0, 1) := by decide +kernel
theorem dX8_apart_22 : decode cX8_apart 22 = .ok (.iload_n 3, 1) := by decide +kernel
theorem dX8_apart_23 : decode cX8_apart 23 = .ok (.invokevirtual 107, 3) := by decide +kernel
theorem dX8_apart_26 : decode cX8_apart 26 = .ok (.ifCond .ne 9, 3) := by decide +kernel
theorem dX8_apart_29 : decode cX8_apart 29 = .ok (.aload_n 0, 1) := by decide +kernel
theorem dX8_apart_30 : decode cX8_apart 30 = .ok (.iconst 1, 1) := by decide +kernel
theorem dX8_apart_31 : decode cX8_apart 31 = .ok (.invokevirtual 82, 3) := by decide +kernel
theorem dX8_apart_34 : decode cX8_apart 34 = .ok (.ireturn, 1) := by decide +kernel
theorem dX8_apart_35 : decode cX8_apart 35 = .ok (.iload_n 2, 1) := by decide +kernel
theorem dX8_apart_36 : decode cX8_apart 36 = .ok (.iload_n 3, 1) := by decide +kernel
theorem dX8_apart_37 : decode cX8_apart 37 = .ok (.if_icmp .ne 9, 3) := by decide +kernel
theorem dX8_apart_40 : decode cX8_apart 40 = .ok (.aload_n 0, 1) := by decide +kernel
theorem dX8_apart_41 : decode cX8_apart 41 = .ok (.iconst 2, 1) := by decide +kernel
theorem dX8_apart_42 : decode cX8_apart 42 = .ok (.invokevirtual 82, 3) := by decide +kernel
theorem dX8_apart_45 : decode cX8_apart 45 = .ok (.ireturn, 1) := by decide +kernel
theorem dX8_apart_46 : decode cX8_apart 46 = .ok (.iconst 1, 1) := by decide +kernel
theorem dX8_apart_47 : decode cX8_apart 47 = .ok (.iload_n 2, 1) := by decide +kernel
theorem dX8_apart_48 : decode cX8_apart 48 = .ok (.ishl, 1) := by decide +kernel
theorem dX8_apart_49 : decode cX8_apart 49 = .ok (.iconst 1, 1) := by decide +kernel
theorem dX8_apart_50 : decode cX8_apart 50 = .ok (.iload_n 3, 1) := by decide +kernel
theorem dX8_apart_51 : decode cX8_apart 51 = .ok (.ishl, 1) := by decide +kernel
theorem dX8_apart_52 : decode cX8_apart 52 = .ok (.ior, 1) := by decide +kernel
theorem dX8_apart_53 : decode cX8_apart 53 = .ok (.istore 4, 2) := by decide +kernel
theorem dX8_apart_55 : decode cX8_apart 55 = .ok (.bipush 20, 2) := by decide +kernel
theorem dX8_apart_57 : decode cX8_apart 57 = .ok (.istore 5, 2) := by decide +kernel
theorem dX8_apart_59 : decode cX8_apart 59 = .ok (.iload 5, 2) := by decide +kernel
theorem dX8_apart_61 : decode cX8_apart 61 = .ok (.sipush 200, 3) := by decide +kernel
theorem dX8_apart_64 : decode cX8_apart 64 = .ok (.if_icmp .gt 105, 3) := by decide +kernel
theorem dX8_apart_67 : decode cX8_apart 67 = .ok (.iconst 0, 1) := by decide +kernel
theorem dX8_apart_68 : decode cX8_apart 68 = .ok (.istore 6, 2) := by decide +kernel
theorem dX8_apart_70 : decode cX8_apart 70 = .ok (.iconst 0, 1) := by decide +kernel
theorem dX8_apart_71 : decode cX8_apart 71 = .ok (.istore 7, 2) := by decide +kernel
theorem dX8_apart_73 : decode cX8_apart 73 = .ok (.iconst 0, 1) := by decide +kernel
theorem dX8_apart_74 : decode cX8_apart 74 = .ok (.istore 8, 2) := by decide +kernel
theorem dX8_apart_76 : decode cX8_apart 76 = .ok (.iload 8, 2) := by decide +kernel
theorem dX8_apart_78 : decode cX8_apart 78 = .ok (.bipush 100, 2) := by decide +kernel
theorem dX8_apart_80 : decode cX8_apart 80 = .ok (.if_icmp .gt 70, 3) := by decide +kernel
theorem dX8_apart_83 : decode cX8_apart 83 = .ok (.aload_n 0, 1) := by decide +kernel
theorem dX8_apart_84 : decode cX8_apart 84 = .ok (.iload_n 1, 1) := by decide +kernel
theorem dX8_apart_85 : decode cX8_apart 85 = .ok (.aload_n 0, 1) := by decide +kernel
theorem dX8_apart_86 : decode cX8_apart 86 = .ok (.getfield 30, 3) := by decide +kernel
theorem dX8_apart_89 : decode cX8_apart 89 = .ok (.getfield 98, 3) := by decide +kernel
theorem dX8_apart_92 : decode cX8_apart 92 = .ok (.iload 5, 2) := by decide +kernel
theorem dX8_apart_94 : decode cX8_apart 94 = .ok (.iload 8, 2) := by decide +kernel
theorem dX8_apart_96 : decode cX8_apart 96 = .ok (.aload_n 0, 1) := by decide +kernel
theorem dX8_apart_97 : decode cX8_apart 97 = .ok (.getfield 30, 3) := by decide +kernel
theorem dX8_apart_100 : decode cX8_apart 100 = .ok (.getfield 91, 3) := by decide +kernel
theorem dX8_apart_103 : decode cX8_apart 103 = .ok (.iload_n 1, 1) := by decide +kernel
theorem dX8_apart_104 : decode cX8_apart 104 = .ok (.iaload, 1) := by decide +kernel
theorem dX8_apart_105 : decode cX8_apart 105 = .ok (.iload 4, 2) := by decide +kernel
theorem dX8_apart_107 : decode cX8_apart 107 = .ok (.invokevirtual 120, 3) := by decide +kernel
theorem dX8_apart_110 : decode cX8_apart 110 = .ok (.istore 9, 2) := by decide +kernel
theorem dX8_apart_112 : decode cX8_apart 112 = .ok (.iload 6, 2) := by decide +kernel
theorem dX8_apart_114 : decode cX8_apart 114 = .ok (.iload 9, 2) := by decide +kernel
theorem dX8_apart_116 : decode cX8_apart 116 = .ok (.iload_n 2, 1) := by decide +kernel
theorem dX8_apart_117 : decode cX8_apart 117 = .ok (.if_icmp .ne 7, 3) := by decide +kernel
theorem dX8_apart_120 : decode cX8_apart 120 = .ok (.iconst 1, 1) := by decide +kernel
theorem dX8_apart_121 : decode cX8_apart 121 = .ok (.goto 4, 3) := by decide +kernel
theorem dX8_apart_124 : decode cX8_apart 124 = .ok (.iconst 0, 1) := by decide +kernel
theorem dX8_apart_125 : decode cX8_apart 125 = .ok (.ior, 1) := by decide +kernel
theorem dX8_apart_126 : decode cX8_apart 126 = .ok (.istore 6, 2) := by decide +kernel
theorem dX8_apart_128 : decode cX8_apart 128 = .ok (.iload 7, 2) := by decide +kernel
theorem dX8_apart_130 : decode cX8_apart 130 = .ok (.iload 9, 2) := by decide +kernel
theorem dX8_apart_132 : decode cX8_apart 132 = .ok (.iload_n 3, 1) := by decide +kernel
theorem dX8_apart_133 : decode cX8_apart 133 = .ok (.if_icmp .ne 7, 3) := by decide +kernel
theorem dX8_apart_136 : decode cX8_apart 136 = .ok (.iconst 1, 1) := by decide +kernel
theorem dX8_apart_137 : decode cX8_apart 137 = .ok (.goto 4, 3) := by decide +kernel
theorem dX8_apart_140 : decode cX8_apart 140 = .ok (.iconst 0, 1) := by decide +kernel
theorem dX8_apart_141 : decode cX8_apart 141 = .ok (.ior, 1) := by decide +kernel
theorem dX8_apart_142 : decode cX8_apart 142 = .ok (.istore 7, 2) := by decide +kernel
theorem dX8_apart_144 : decode cX8_apart 144 = .ok (.iinc 8 1, 3) := by decide +kernel
theorem dX8_apart_147 : decode cX8_apart 147 = .ok (.goto (-71), 3) := by decide +kernel
theorem dX8_apart_150 : decode cX8_apart 150 = .ok (.iload 6, 2) := by decide +kernel
theorem dX8_apart_152 : decode cX8_apart 152 = .ok (.ifCond .eq 11, 3) := by decide +kernel
theorem dX8_apart_155 : decode cX8_apart 155 = .ok (.iload 7, 2) := by decide +kernel
theorem dX8_apart_157 : decode cX8_apart 157 = .ok (.ifCond .eq 6, 3) := by decide +kernel
theorem dX8_apart_160 : decode cX8_apart 160 = .ok (.iload 5, 2) := by decide +kernel
theorem dX8_apart_162 : decode cX8_apart 162 = .ok (.ireturn, 1) := by decide +kernel
theorem dX8_apart_163 : decode cX8_apart 163 = .ok (.iinc 5 1, 3) := by decide +kernel
theorem dX8_apart_166 : decode cX8_apart 166 = .ok (.goto (-107), 3) := by decide +kernel
theorem dX8_apart_169 : decode cX8_apart 169 = .ok (.iconst (-1), 1) := by decide +kernel
theorem dX8_apart_170 : decode cX8_apart 170 = .ok (.ireturn, 1) := by decide +kernel
theorem dX8_foresee_0 : decode cX8_foresee 0 = .ok (.aload_n 0, 1) := by decide +kernel
theorem dX8_foresee_1 : decode cX8_foresee 1 = .ok (.iconst 0, 1) := by decide +kernel
theorem dX8_foresee_2 : decode cX8_foresee 2 = .ok (.putfield 37, 3) := by decide +kernel
theorem dX8_foresee_5 : decode cX8_foresee 5 = .ok (.iload_n 1, 1) := by decide +kernel
theorem dX8_foresee_6 : decode cX8_foresee 6 = .ok (.iconst 1, 1) := by decide +kernel
theorem dX8_foresee_7 : decode cX8_foresee 7 = .ok (.sipush 240, 3) := by decide +kernel
theorem dX8_foresee_10 : decode cX8_foresee 10 = .ok (.invokestatic 44, 3) := by decide +kernel
theorem dX8_foresee_13 : decode cX8_foresee 13 = .ok (.ifCond .ne 9, 3) := by decide +kernel
theorem dX8_foresee_16 : decode cX8_foresee 16 = .ok (.aload_n 0, 1) := by decide +kernel
theorem dX8_foresee_17 : decode cX8_foresee 17 = .ok (.iconst 1, 1) := by decide +kernel
theorem dX8_foresee_18 : decode cX8_foresee 18 = .ok (.invokevirtual 82, 3) := by decide +kernel
theorem dX8_foresee_21 : decode cX8_foresee 21 = .ok (.ireturn, 1) := by decide +kernel
theorem dX8_foresee_22 : decode cX8_foresee 22 = .ok (.iload_n 2, 1) := by decide +kernel
theorem dX8_foresee_23 : decode cX8_foresee 23 = .ok (.iconst 0, 1) := by decide +kernel
theorem dX8_foresee_24 : decode cX8_foresee 24 = .ok (.iconst 1, 1) := by decide +kernel
theorem dX8_foresee_25 : decode cX8_foresee 25 = .ok (.invokestatic 44, 3) := by decide +kernel
theorem dX8_foresee_28 : decode cX8_foresee 28 = .ok (.ifCond .ne 9, 3) := by decide +kernel
theorem dX8_foresee_31 : decode cX8_foresee 31 = .ok (.aload_n 0, 1) := by decide +kernel
theorem dX8_foresee_32 : decode cX8_foresee 32 = .ok (.iconst 2, 1) := by decide +kernel
theorem dX8_foresee_33 : decode cX8_foresee 33 = .ok (.invokevirtual 82, 3) := by decide +kernel
theorem dX8_foresee_36 : decode cX8_foresee 36 = .ok (.ireturn, 1) := by decide +kernel
theorem dX8_foresee_37 : decode cX8_foresee 37 = .ok (.aload_n 0, 1) := by decide +kernel
theorem dX8_foresee_38 : decode cX8_foresee 38 = .ok (.getfield 34, 3) := by decide +kernel
theorem dX8_foresee_41 : decode cX8_foresee 41 = .ok (.aload_n 0, 1) := by decide +kernel
theorem dX8_foresee_42 : decode cX8_foresee 42 = .ok (.getfield 30, 3) := by decide +kernel
theorem dX8_foresee_45 : decode cX8_foresee 45 = .ok (.invokevirtual 156, 3) := by decide +kernel
theorem dX8_foresee_48 : decode cX8_foresee 48 = .ok (.aload_n 0, 1) := by decide +kernel
theorem dX8_foresee_49 : decode cX8_foresee 49 = .ok (.getfield 34, 3) := by decide +kernel
theorem dX8_foresee_52 : decode cX8_foresee 52 = .ok (.iload_n 1, 1) := by decide +kernel
theorem dX8_foresee_53 : decode cX8_foresee 53 = .ok (.invokevirtual 138, 3) := by decide +kernel
theorem dX8_foresee_56 : decode cX8_foresee 56 = .ok (.iload_n 2, 1) := by decide +kernel
theorem dX8_foresee_57 : decode cX8_foresee 57 = .ok (.ifCond .ne 21, 3) := by decide +kernel
theorem dX8_foresee_60 : decode cX8_foresee 60 = .ok (.aload_n 0, 1) := by decide +kernel
theorem dX8_foresee_61 : decode cX8_foresee 61 = .ok (.getfield 34, 3) := by decide +kernel
theorem dX8_foresee_64 : decode cX8_foresee 64 = .ok (.getfield 135, 3) := by decide +kernel
theorem dX8_foresee_67 : decode cX8_foresee 67 = .ok (.aload_n 0, 1) := by decide +kernel
theorem dX8_foresee_68 : decode cX8_foresee 68 = .ok (.getfield 30, 3) := by decide +kernel
theorem dX8_foresee_71 : decode cX8_foresee 71 = .ok (.getfield 135, 3) := by decide +kernel
theorem dX8_foresee_74 : decode cX8_foresee 74 = .ok (.isub, 1) := by decide +kernel
theorem dX8_foresee_75 : decode cX8_foresee 75 = .ok (.goto 18, 3) := by decide +kernel
theorem dX8_foresee_78 : decode cX8_foresee 78 = .ok (.aload_n 0, 1) := by decide +kernel
theorem dX8_foresee_79 : decode cX8_foresee 79 = .ok (.getfield 34, 3) := by decide +kernel
theorem dX8_foresee_82 : decode cX8_foresee 82 = .ok (.getfield 147, 3) := by decide +kernel
theorem dX8_foresee_85 : decode cX8_foresee 85 = .ok (.aload_n 0, 1) := by decide +kernel
theorem dX8_foresee_86 : decode cX8_foresee 86 = .ok (.getfield 30, 3) := by decide +kernel
theorem dX8_foresee_89 : decode cX8_foresee 89 = .ok (.getfield 147, 3) := by decide +kernel
theorem dX8_foresee_92 : decode cX8_foresee 92 = .ok (.isub, 1) := by decide +kernel
theorem dX8_foresee_93 : decode cX8_foresee 93 = .ok (.ireturn, 1) := by decide +kernel
theorem dX8_mean_0 : decode cX8_mean 0 = .ok (.aload_n 0, 1) := by decide +kernel
theorem dX8_mean_1 : decode cX8_mean 1 = .ok (.iconst 0, 1) := by decide +kernel
theorem dX8_mean_2 : decode cX8_mean 2 = .ok (.putfield 37, 3) := by decide +kernel
theorem dX8_mean_5 : decode cX8_mean 5 = .ok (.iconst 0, 1) := by decide +kernel
theorem dX8_mean_6 : decode cX8_mean 6 = .ok (.istore_n 1, 1) := by decide +kernel
theorem dX8_mean_7 : decode cX8_mean 7 = .ok (.iconst 0, 1) := by decide +kernel
theorem dX8_mean_8 : decode cX8_mean 8 = .ok (.istore_n 2, 1) := by decide +kernel
theorem dX8_mean_9 : decode cX8_mean 9 = .ok (.iload_n 2, 1) := by decide +kernel
theorem dX8_mean_10 : decode cX8_mean 10 = .ok (.aload_n 0, 1) := by decide +kernel
theorem dX8_mean_11 : decode cX8_mean 11 = .ok (.getfield 48, 3) := by decide +kernel
theorem dX8_mean_14 : decode cX8_mean 14 = .ok (.if_icmp .ge 51, 3) := by decide +kernel
theorem dX8_mean_17 : decode cX8_mean 17 = .ok (.iconst 0, 1) := by decide +kernel
theorem dX8_mean_18 : decode cX8_mean 18 = .ok (.istore_n 3, 1) := by decide +kernel
theorem dX8_mean_19 : decode cX8_mean 19 = .ok (.iload_n 3, 1) := by decide +kernel
theorem dX8_mean_20 : decode cX8_mean 20 = .ok (.aload_n 0, 1) := by decide +kernel
theorem dX8_mean_21 : decode cX8_mean 21 = .ok (.getfield 30, 3) := by decide +kernel
theorem dX8_mean_24 : decode cX8_mean 24 = .ok (.getfield 55, 3) := by decide +kernel
theorem dX8_mean_27 : decode cX8_mean 27 = .ok (.iload_n 2, 1) := by decide +kernel
theorem dX8_mean_28 : decode cX8_mean 28 = .ok (.iaload, 1) := by decide +kernel
theorem dX8_mean_29 : decode cX8_mean 29 = .ok (.if_icmp .ge 30, 3) := by decide +kernel
theorem dX8_mean_32 : decode cX8_mean 32 = .ok (.iload_n 1, 1) := by decide +kernel
theorem dX8_mean_33 : decode cX8_mean 33 = .ok (.aload_n 0, 1) := by decide +kernel
theorem dX8_mean_34 : decode cX8_mean 34 = .ok (.getfield 30, 3) := by decide +kernel
theorem dX8_mean_37 : decode cX8_mean 37 = .ok (.getfield 126, 3) := by decide +kernel
theorem dX8_mean_40 : decode cX8_mean 40 = .ok (.iconst 4, 1) := by decide +kernel
theorem dX8_mean_41 : decode cX8_mean 41 = .ok (.bipush 40, 2) := by decide +kernel
theorem dX8_mean_43 : decode cX8_mean 43 = .ok (.iload_n 2, 1) := by decide +kernel
theorem dX8_mean_44 : decode cX8_mean 44 = .ok (.imul, 1) := by decide +kernel
theorem dX8_mean_45 : decode cX8_mean 45 = .ok (.iload_n 3, 1) := by decide +kernel
theorem dX8_mean_46 : decode cX8_mean 46 = .ok (.iadd, 1) := by decide +kernel
theorem dX8_mean_47 : decode cX8_mean 47 = .ok (.imul, 1) := by decide +kernel
theorem dX8_mean_48 : decode cX8_mean 48 = .ok (.iconst 2, 1) := by decide +kernel
theorem dX8_mean_49 : decode cX8_mean 49 = .ok (.iadd, 1) := by decide +kernel
theorem dX8_mean_50 : decode cX8_mean 50 = .ok (.iaload, 1) := by decide +kernel
theorem dX8_mean_51 : decode cX8_mean 51 = .ok (.iadd, 1) := by decide +kernel
theorem dX8_mean_52 : decode cX8_mean 52 = .ok (.istore_n 1, 1) := by decide +kernel
theorem dX8_mean_53 : decode cX8_mean 53 = .ok (.iinc 3 1, 3) := by decide +kernel
theorem dX8_mean_56 : decode cX8_mean 56 = .ok (.goto (-37), 3) := by decide +kernel
theorem dX8_mean_59 : decode cX8_mean 59 = .ok (.iinc 2 1, 3) := by decide +kernel
theorem dX8_mean_62 : decode cX8_mean 62 = .ok (.goto (-53), 3) := by decide +kernel
theorem dX8_mean_65 : decode cX8_mean 65 = .ok (.aload_n 0, 1) := by decide +kernel
theorem dX8_mean_66 : decode cX8_mean 66 = .ok (.getfield 30, 3) := by decide +kernel
theorem dX8_mean_69 : decode cX8_mean 69 = .ok (.getfield 135, 3) := by decide +kernel
theorem dX8_mean_72 : decode cX8_mean 72 = .ok (.ifCond .ne 7, 3) := by decide +kernel
theorem dX8_mean_75 : decode cX8_mean 75 = .ok (.dconst 0, 1) := by decide +kernel
theorem dX8_mean_76 : decode cX8_mean 76 = .ok (.goto 14, 3) := by decide +kernel
theorem dX8_mean_79 : decode cX8_mean 79 = .ok (.iload_n 1, 1) := by decide +kernel
theorem dX8_mean_80 : decode cX8_mean 80 = .ok (.i2d, 1) := by decide +kernel
theorem dX8_mean_81 : decode cX8_mean 81 = .ok (.aload_n 0, 1) := by decide +kernel
theorem dX8_mean_82 : decode cX8_mean 82 = .ok (.getfield 30, 3) := by decide +kernel
theorem dX8_mean_85 : decode cX8_mean 85 = .ok (.getfield 135, 3) := by decide +kernel
theorem dX8_mean_88 : decode cX8_mean 88 = .ok (.i2d, 1) := by decide +kernel
theorem dX8_mean_89 : decode cX8_mean 89 = .ok (.ddiv, 1) := by decide +kernel
theorem dX8_mean_90 : decode cX8_mean 90 = .ok (.dreturn, 1) := by decide +kernel
theorem dX8_digest_0 : decode cX8_digest 0 = .ok (.aload_n 0, 1) := by decide +kernel
theorem dX8_digest_1 : decode cX8_digest 1 = .ok (.iconst 0, 1) := by decide +kernel
theorem dX8_digest_2 : decode cX8_digest 2 = .ok (.putfield 37, 3) := by decide +kernel
theorem dX8_digest_5 : decode cX8_digest 5 = .ok (.ldc2_w 160, 3) := by decide +kernel
theorem dX8_digest_8 : decode cX8_digest 8 = .ok (.lstore_n 1, 1) := by decide +kernel
theorem dX8_digest_9 : decode cX8_digest 9 = .ok (.iconst 0, 1) := by decide +kernel
theorem dX8_digest_10 : decode cX8_digest 10 = .ok (.istore_n 3, 1) := by decide +kernel
theorem dX8_digest_11 : decode cX8_digest 11 = .ok (.iload_n 3, 1) := by decide +kernel
theorem dX8_digest_12 : decode cX8_digest 12 = .ok (.bipush 8, 2) := by decide +kernel
theorem dX8_digest_14 : decode cX8_digest 14 = .ok (.if_icmp .ge 22, 3) := by decide +kernel
theorem dX8_digest_17 : decode cX8_digest 17 = .ok (.lload_n 1, 1) := by decide +kernel
theorem dX8_digest_18 : decode cX8_digest 18 = .ok (.ldc2_w 162, 3) := by decide +kernel
theorem dX8_digest_21 : decode cX8_digest 21 = .ok (.lmul, 1) := by decide +kernel
theorem dX8_digest_22 : decode cX8_digest 22 = .ok (.aload_n 0, 1) := by decide +kernel
theorem dX8_digest_23 : decode cX8_digest 23 = .ok (.iload_n 3, 1) := by decide +kernel
theorem dX8_digest_24 : decode cX8_digest 24 = .ok (.invokevirtual 150, 3) := by decide +kernel
theorem dX8_digest_27 : decode cX8_digest 27 = .ok (.i2l, 1) := by decide +kernel
theorem dX8_digest_28 : decode cX8_digest 28 = .ok (.ladd, 1) := by decide +kernel
theorem dX8_digest_29 : decode cX8_digest 29 = .ok (.lstore_n 1, 1) := by decide +kernel
theorem dX8_digest_30 : decode cX8_digest 30 = .ok (.iinc 3 1, 3) := by decide +kernel
theorem dX8_digest_33 : decode cX8_digest 33 = .ok (.goto (-22), 3) := by decide +kernel
theorem dX8_digest_36 : decode cX8_digest 36 = .ok (.iconst 0, 1) := by decide +kernel
theorem dX8_digest_37 : decode cX8_digest 37 = .ok (.istore_n 3, 1) := by decide +kernel
theorem dX8_digest_38 : decode cX8_digest 38 = .ok (.iload_n 3, 1) := by decide +kernel
theorem dX8_digest_39 : decode cX8_digest 39 = .ok (.aload_n 0, 1) := by decide +kernel
theorem dX8_digest_40 : decode cX8_digest 40 = .ok (.getfield 41, 3) := by decide +kernel
theorem dX8_digest_43 : decode cX8_digest 43 = .ok (.if_icmp .ge 40, 3) := by decide +kernel
theorem dX8_digest_46 : decode cX8_digest 46 = .ok (.iconst 0, 1) := by decide +kernel
theorem dX8_digest_47 : decode cX8_digest 47 = .ok (.istore 4, 2) := by decide +kernel
theorem dX8_digest_49 : decode cX8_digest 49 = .ok (.iload 4, 2) := by decide +kernel
theorem dX8_digest_51 : decode cX8_digest 51 = .ok (.bipush 6, 2) := by decide +kernel
theorem dX8_digest_53 : decode cX8_digest 53 = .ok (.if_icmp .ge 24, 3) := by decide +kernel
theorem dX8_digest_56 : decode cX8_digest 56 = .ok (.lload_n 1, 1) := by decide +kernel
theorem dX8_digest_57 : decode cX8_digest 57 = .ok (.ldc2_w 162, 3) := by decide +kernel
theorem dX8_digest_60 : decode cX8_digest 60 = .ok (.lmul, 1) := by decide +kernel
theorem dX8_digest_61 : decode cX8_digest 61 = .ok (.aload_n 0, 1) := by decide +kernel
theorem dX8_digest_62 : decode cX8_digest 62 = .ok (.iload_n 3, 1) := by decide +kernel
theorem dX8_digest_63 : decode cX8_digest 63 = .ok (.iload 4, 2) := by decide +kernel
theorem dX8_digest_65 : decode cX8_digest 65 = .ok (.invokevirtual 110, 3) := by decide +kernel
theorem dX8_digest_68 : decode cX8_digest 68 = .ok (.i2l, 1) := by decide +kernel
theorem dX8_digest_69 : decode cX8_digest 69 = .ok (.ladd, 1) := by decide +kernel
theorem dX8_digest_70 : decode cX8_digest 70 = .ok (.lstore_n 1, 1) := by decide +kernel
theorem dX8_digest_71 : decode cX8_digest 71 = .ok (.iinc 4 1, 3) := by decide +kernel
theorem dX8_digest_74 : decode cX8_digest 74 = .ok (.goto (-25), 3) := by decide +kernel
theorem dX8_digest_77 : decode cX8_digest 77 = .ok (.iinc 3 1, 3) := by decide +kernel
theorem dX8_digest_80 : decode cX8_digest 80 = .ok (.goto (-42), 3) := by decide +kernel
theorem dX8_digest_83 : decode cX8_digest 83 = .ok (.iconst 0, 1) := by decide +kernel
theorem dX8_digest_84 : decode cX8_digest 84 = .ok (.istore_n 3, 1) := by decide +kernel
theorem dX8_digest_85 : decode cX8_digest 85 = .ok (.iload_n 3, 1) := by decide +kernel
theorem dX8_digest_86 : decode cX8_digest 86 = .ok (.aload_n 0, 1) := by decide +kernel
theorem dX8_digest_87 : decode cX8_digest 87 = .ok (.getfield 48, 3) := by decide +kernel
theorem dX8_digest_90 : decode cX8_digest 90 = .ok (.if_icmp .ge 89, 3) := by decide +kernel
theorem dX8_digest_93 : decode cX8_digest 93 = .ok (.iconst 0, 1) := by decide +kernel
theorem dX8_digest_94 : decode cX8_digest 94 = .ok (.istore 4, 2) := by decide +kernel
theorem dX8_digest_96 : decode cX8_digest 96 = .ok (.iload 4, 2) := by decide +kernel
theorem dX8_digest_98 : decode cX8_digest 98 = .ok (.bipush 10, 2) := by decide +kernel
theorem dX8_digest_100 : decode cX8_digest 100 = .ok (.if_icmp .ge 24, 3) := by decide +kernel
theorem dX8_digest_103 : decode cX8_digest 103 = .ok (.lload_n 1, 1) := by decide +kernel
theorem dX8_digest_104 : decode cX8_digest 104 = .ok (.ldc2_w 162, 3) := by decide +kernel
theorem dX8_digest_107 : decode cX8_digest 107 = .ok (.lmul, 1) := by decide +kernel
theorem dX8_digest_108 : decode cX8_digest 108 = .ok (.aload_n 0, 1) := by decide +kernel
theorem dX8_digest_109 : decode cX8_digest 109 = .ok (.iload_n 3, 1) := by decide +kernel
theorem dX8_digest_110 : decode cX8_digest 110 = .ok (.iload 4, 2) := by decide +kernel
theorem dX8_digest_112 : decode cX8_digest 112 = .ok (.invokevirtual 117, 3) := by decide +kernel
theorem dX8_digest_115 : decode cX8_digest 115 = .ok (.i2l, 1) := by decide +kernel
theorem dX8_digest_116 : decode cX8_digest 116 = .ok (.ladd, 1) := by decide +kernel
theorem dX8_digest_117 : decode cX8_digest 117 = .ok (.lstore_n 1, 1) := by decide +kernel
theorem dX8_digest_118 : decode cX8_digest 118 = .ok (.iinc 4 1, 3) := by decide +kernel
theorem dX8_digest_121 : decode cX8_digest 121 = .ok (.goto (-25), 3) := by decide +kernel
theorem dX8_digest_124 : decode cX8_digest 124 = .ok (.iconst 0, 1) := by decide +kernel
theorem dX8_digest_125 : decode cX8_digest 125 = .ok (.istore 4, 2) := by decide +kernel
theorem dX8_digest_127 : decode cX8_digest 127 = .ok (.iload 4, 2) := by decide +kernel
theorem dX8_digest_129 : decode cX8_digest 129 = .ok (.iconst 4, 1) := by decide +kernel
theorem dX8_digest_130 : decode cX8_digest 130 = .ok (.aload_n 0, 1) := by decide +kernel
theorem dX8_digest_131 : decode cX8_digest 131 = .ok (.getfield 30, 3) := by decide +kernel
theorem dX8_digest_134 : decode cX8_digest 134 = .ok (.getfield 55, 3) := by decide +kernel
theorem dX8_digest_137 : decode cX8_digest 137 = .ok (.iload_n 3, 1) := by decide +kernel
theorem dX8_digest_138 : decode cX8_digest 138 = .ok (.iaload, 1) := by decide +kernel
theorem dX8_digest_139 : decode cX8_digest 139 = .ok (.imul, 1) := by decide +kernel
theorem dX8_digest_140 : decode cX8_digest 140 = .ok (.if_icmp .ge 33, 3) := by decide +kernel
theorem dX8_digest_143 : decode cX8_digest 143 = .ok (.lload_n 1, 1) := by decide +kernel
theorem dX8_digest_144 : decode cX8_digest 144 = .ok (.ldc2_w 162, 3) := by decide +kernel
theorem dX8_digest_147 : decode cX8_digest 147 = .ok (.lmul, 1) := by decide +kernel
theorem dX8_digest_148 : decode cX8_digest 148 = .ok (.aload_n 0, 1) := by decide +kernel
theorem dX8_digest_149 : decode cX8_digest 149 = .ok (.getfield 30, 3) := by decide +kernel
theorem dX8_digest_152 : decode cX8_digest 152 = .ok (.getfield 126, 3) := by decide +kernel
theorem dX8_digest_155 : decode cX8_digest 155 = .ok (.sipush 160, 3) := by decide +kernel
theorem dX8_digest_158 : decode cX8_digest 158 = .ok (.iload_n 3, 1) := by decide +kernel
theorem dX8_digest_159 : decode cX8_digest 159 = .ok (.imul, 1) := by decide +kernel
theorem dX8_digest_160 : decode cX8_digest 160 = .ok (.iload 4, 2) := by decide +kernel
theorem dX8_digest_162 : decode cX8_digest 162 = .ok (.iadd, 1) := by decide +kernel
theorem dX8_digest_163 : decode cX8_digest 163 = .ok (.iaload, 1) := by decide +kernel
theorem dX8_digest_164 : decode cX8_digest 164 = .ok (.i2l, 1) := by decide +kernel
theorem dX8_digest_165 : decode cX8_digest 165 = .ok (.ladd, 1) := by decide +kernel
theorem dX8_digest_166 : decode cX8_digest 166 = .ok (.lstore_n 1, 1) := by decide +kernel
theorem dX8_digest_167 : decode cX8_digest 167 = .ok (.iinc 4 1, 3) := by decide +kernel
theorem dX8_digest_170 : decode cX8_digest 170 = .ok (.goto (-43), 3) := by decide +kernel
theorem dX8_digest_173 : decode cX8_digest 173 = .ok (.iinc 3 1, 3) := by decide +kernel
theorem dX8_digest_176 : decode cX8_digest 176 = .ok (.goto (-91), 3) := by decide +kernel
theorem dX8_digest_179 : decode cX8_digest 179 = .ok (.iconst 0, 1) := by decide +kernel
theorem dX8_digest_180 : decode cX8_digest 180 = .ok (.istore_n 3, 1) := by decide +kernel
theorem dX8_digest_181 : decode cX8_digest 181 = .ok (.iload_n 3, 1) := by decide +kernel
theorem dX8_digest_182 : decode cX8_digest 182 = .ok (.aload_n 0, 1) := by decide +kernel
theorem dX8_digest_183 : decode cX8_digest 183 = .ok (.getfield 30, 3) := by decide +kernel
theorem dX8_digest_186 : decode cX8_digest 186 = .ok (.getfield 129, 3) := by decide +kernel
theorem dX8_digest_189 : decode cX8_digest 189 = .ok (.if_icmp .ge 74, 3) := by decide +kernel
theorem dX8_digest_192 : decode cX8_digest 192 = .ok (.lload_n 1, 1) := by decide +kernel
theorem dX8_digest_193 : decode cX8_digest 193 = .ok (.ldc2_w 162, 3) := by decide +kernel
theorem dX8_digest_196 : decode cX8_digest 196 = .ok (.lmul, 1) := by decide +kernel
theorem dX8_digest_197 : decode cX8_digest 197 = .ok (.aload_n 0, 1) := by decide +kernel
theorem dX8_digest_198 : decode cX8_digest 198 = .ok (.getfield 30, 3) := by decide +kernel
theorem dX8_digest_201 : decode cX8_digest 201 = .ok (.getfield 132, 3) := by decide +kernel
theorem dX8_digest_204 : decode cX8_digest 204 = .ok (.iconst 2, 1) := by decide +kernel
theorem dX8_digest_205 : decode cX8_digest 205 = .ok (.iload_n 3, 1) := by decide +kernel
theorem dX8_digest_206 : decode cX8_digest 206 = .ok (.imul, 1) := by decide +kernel
theorem dX8_digest_207 : decode cX8_digest 207 = .ok (.iaload, 1) := by decide +kernel
theorem dX8_digest_208 : decode cX8_digest 208 = .ok (.bipush 40, 2) := by decide +kernel
theorem dX8_digest_210 : decode cX8_digest 210 = .ok (.idiv, 1) := by decide +kernel
theorem dX8_digest_211 : decode cX8_digest 211 = .ok (.i2l, 1) := by decide +kernel
theorem dX8_digest_212 : decode cX8_digest 212 = .ok (.ladd, 1) := by decide +kernel
theorem dX8_digest_213 : decode cX8_digest 213 = .ok (.lstore_n 1, 1) := by decide +kernel
theorem dX8_digest_214 : decode cX8_digest 214 = .ok (.lload_n 1, 1) := by decide +kernel
theorem dX8_digest_215 : decode cX8_digest 215 = .ok (.ldc2_w 162, 3) := by decide +kernel
theorem dX8_digest_218 : decode cX8_digest 218 = .ok (.lmul, 1) := by decide +kernel
theorem dX8_digest_219 : decode cX8_digest 219 = .ok (.aload_n 0, 1) := by decide +kernel
theorem dX8_digest_220 : decode cX8_digest 220 = .ok (.getfield 30, 3) := by decide +kernel
theorem dX8_digest_223 : decode cX8_digest 223 = .ok (.getfield 132, 3) := by decide +kernel
theorem dX8_digest_226 : decode cX8_digest 226 = .ok (.iconst 2, 1) := by decide +kernel
theorem dX8_digest_227 : decode cX8_digest 227 = .ok (.iload_n 3, 1) := by decide +kernel
theorem dX8_digest_228 : decode cX8_digest 228 = .ok (.imul, 1) := by decide +kernel
theorem dX8_digest_229 : decode cX8_digest 229 = .ok (.iaload, 1) := by decide +kernel
theorem dX8_digest_230 : decode cX8_digest 230 = .ok (.bipush 40, 2) := by decide +kernel
theorem dX8_digest_232 : decode cX8_digest 232 = .ok (.irem, 1) := by decide +kernel
theorem dX8_digest_233 : decode cX8_digest 233 = .ok (.i2l, 1) := by decide +kernel
theorem dX8_digest_234 : decode cX8_digest 234 = .ok (.ladd, 1) := by decide +kernel
theorem dX8_digest_235 : decode cX8_digest 235 = .ok (.lstore_n 1, 1) := by decide +kernel
theorem dX8_digest_236 : decode cX8_digest 236 = .ok (.lload_n 1, 1) := by decide +kernel
theorem dX8_digest_237 : decode cX8_digest 237 = .ok (.ldc2_w 162, 3) := by decide +kernel
theorem dX8_digest_240 : decode cX8_digest 240 = .ok (.lmul, 1) := by decide +kernel
theorem dX8_digest_241 : decode cX8_digest 241 = .ok (.aload_n 0, 1) := by decide +kernel
theorem dX8_digest_242 : decode cX8_digest 242 = .ok (.getfield 30, 3) := by decide +kernel
theorem dX8_digest_245 : decode cX8_digest 245 = .ok (.getfield 132, 3) := by decide +kernel
theorem dX8_digest_248 : decode cX8_digest 248 = .ok (.iconst 2, 1) := by decide +kernel
theorem dX8_digest_249 : decode cX8_digest 249 = .ok (.iload_n 3, 1) := by decide +kernel
theorem dX8_digest_250 : decode cX8_digest 250 = .ok (.imul, 1) := by decide +kernel
theorem dX8_digest_251 : decode cX8_digest 251 = .ok (.iconst 1, 1) := by decide +kernel
theorem dX8_digest_252 : decode cX8_digest 252 = .ok (.iadd, 1) := by decide +kernel
theorem dX8_digest_253 : decode cX8_digest 253 = .ok (.iaload, 1) := by decide +kernel
theorem dX8_digest_254 : decode cX8_digest 254 = .ok (.i2l, 1) := by decide +kernel
theorem dX8_digest_255 : decode cX8_digest 255 = .ok (.ladd, 1) := by decide +kernel
theorem dX8_digest_256 : decode cX8_digest 256 = .ok (.lstore_n 1, 1) := by decide +kernel
theorem dX8_digest_257 : decode cX8_digest 257 = .ok (.iinc 3 1, 3) := by decide +kernel
theorem dX8_digest_260 : decode cX8_digest 260 = .ok (.goto (-79), 3) := by decide +kernel
theorem dX8_digest_263 : decode cX8_digest 263 = .ok (.lload_n 1, 1) := by decide +kernel
theorem dX8_digest_264 : decode cX8_digest 264 = .ok (.lreturn, 1) := by decide +kernel
theorem dJ6_compare_7cf53_0 : decode cJ6_compare_7cf53 0 = .ok (.iload_n 0, 1) := by decide +kernel
theorem dJ6_compare_7cf53_1 : decode cJ6_compare_7cf53 1 = .ok (.iload_n 1, 1) := by decide +kernel
theorem dJ6_compare_7cf53_2 : decode cJ6_compare_7cf53 2 = .ok (.if_icmp .ge 7, 3) := by decide +kernel
theorem dJ6_compare_7cf53_5 : decode cJ6_compare_7cf53 5 = .ok (.iconst (-1), 1) := by decide +kernel
theorem dJ6_compare_7cf53_6 : decode cJ6_compare_7cf53 6 = .ok (.goto 13, 3) := by decide +kernel
theorem dJ6_compare_7cf53_9 : decode cJ6_compare_7cf53 9 = .ok (.iload_n 0, 1) := by decide +kernel
theorem dJ6_compare_7cf53_10 : decode cJ6_compare_7cf53 10 = .ok (.iload_n 1, 1) := by decide +kernel
theorem dJ6_compare_7cf53_11 : decode cJ6_compare_7cf53 11 = .ok (.if_icmp .ne 7, 3) := by decide +kernel
theorem dJ6_compare_7cf53_14 : decode cJ6_compare_7cf53 14 = .ok (.iconst 0, 1) := by decide +kernel
theorem dJ6_compare_7cf53_15 : decode cJ6_compare_7cf53 15 = .ok (.goto 4, 3) := by decide +kernel
theorem dJ6_compare_7cf53_18 : decode cJ6_compare_7cf53 18 = .ok (.iconst 1, 1) := by decide +kernel
theorem dJ6_compare_7cf53_19 : decode cJ6_compare_7cf53 19 = .ok (.ireturn, 1) := by decide +kernel
theorem dJ6_bitCount_0f7a4_0 : decode cJ6_bitCount_0f7a4 0 = .ok (.iload_n 0, 1) := by decide +kernel
theorem dJ6_bitCount_0f7a4_1 : decode cJ6_bitCount_0f7a4 1 = .ok (.iload_n 0, 1) := by decide +kernel
theorem dJ6_bitCount_0f7a4_2 : decode cJ6_bitCount_0f7a4 2 = .ok (.iconst 1, 1) := by decide +kernel
theorem dJ6_bitCount_0f7a4_3 : decode cJ6_bitCount_0f7a4 3 = .ok (.iushr, 1) := by decide +kernel
theorem dJ6_bitCount_0f7a4_4 : decode cJ6_bitCount_0f7a4 4 = .ok (.ldc_w 265, 3) := by decide +kernel
theorem dJ6_bitCount_0f7a4_7 : decode cJ6_bitCount_0f7a4 7 = .ok (.iand, 1) := by decide +kernel
theorem dJ6_bitCount_0f7a4_8 : decode cJ6_bitCount_0f7a4 8 = .ok (.isub, 1) := by decide +kernel
theorem dJ6_bitCount_0f7a4_9 : decode cJ6_bitCount_0f7a4 9 = .ok (.istore_n 0, 1) := by decide +kernel
theorem dJ6_bitCount_0f7a4_10 : decode cJ6_bitCount_0f7a4 10 = .ok (.iload_n 0, 1) := by decide +kernel
theorem dJ6_bitCount_0f7a4_11 : decode cJ6_bitCount_0f7a4 11 = .ok (.ldc_w 266, 3) := by decide +kernel
theorem dJ6_bitCount_0f7a4_14 : decode cJ6_bitCount_0f7a4 14 = .ok (.iand, 1) := by decide +kernel
theorem dJ6_bitCount_0f7a4_15 : decode cJ6_bitCount_0f7a4 15 = .ok (.iload_n 0, 1) := by decide +kernel
theorem dJ6_bitCount_0f7a4_16 : decode cJ6_bitCount_0f7a4 16 = .ok (.iconst 2, 1) := by decide +kernel
theorem dJ6_bitCount_0f7a4_17 : decode cJ6_bitCount_0f7a4 17 = .ok (.iushr, 1) := by decide +kernel
theorem dJ6_bitCount_0f7a4_18 : decode cJ6_bitCount_0f7a4 18 = .ok (.ldc_w 266, 3) := by decide +kernel
theorem dJ6_bitCount_0f7a4_21 : decode cJ6_bitCount_0f7a4 21 = .ok (.iand, 1) := by decide +kernel
theorem dJ6_bitCount_0f7a4_22 : decode cJ6_bitCount_0f7a4 22 = .ok (.iadd, 1) := by decide +kernel
theorem dJ6_bitCount_0f7a4_23 : decode cJ6_bitCount_0f7a4 23 = .ok (.istore_n 0, 1) := by decide +kernel
theorem dJ6_bitCount_0f7a4_24 : decode cJ6_bitCount_0f7a4 24 = .ok (.iload_n 0, 1) := by decide +kernel
theorem dJ6_bitCount_0f7a4_25 : decode cJ6_bitCount_0f7a4 25 = .ok (.iload_n 0, 1) := by decide +kernel
theorem dJ6_bitCount_0f7a4_26 : decode cJ6_bitCount_0f7a4 26 = .ok (.iconst 4, 1) := by decide +kernel
theorem dJ6_bitCount_0f7a4_27 : decode cJ6_bitCount_0f7a4 27 = .ok (.iushr, 1) := by decide +kernel
theorem dJ6_bitCount_0f7a4_28 : decode cJ6_bitCount_0f7a4 28 = .ok (.iadd, 1) := by decide +kernel
theorem dJ6_bitCount_0f7a4_29 : decode cJ6_bitCount_0f7a4 29 = .ok (.ldc_w 267, 3) := by decide +kernel
theorem dJ6_bitCount_0f7a4_32 : decode cJ6_bitCount_0f7a4 32 = .ok (.iand, 1) := by decide +kernel
theorem dJ6_bitCount_0f7a4_33 : decode cJ6_bitCount_0f7a4 33 = .ok (.istore_n 0, 1) := by decide +kernel
theorem dJ6_bitCount_0f7a4_34 : decode cJ6_bitCount_0f7a4 34 = .ok (.iload_n 0, 1) := by decide +kernel
theorem dJ6_bitCount_0f7a4_35 : decode cJ6_bitCount_0f7a4 35 = .ok (.iload_n 0, 1) := by decide +kernel
theorem dJ6_bitCount_0f7a4_36 : decode cJ6_bitCount_0f7a4 36 = .ok (.bipush 8, 2) := by decide +kernel
theorem dJ6_bitCount_0f7a4_38 : decode cJ6_bitCount_0f7a4 38 = .ok (.iushr, 1) := by decide +kernel
theorem dJ6_bitCount_0f7a4_39 : decode cJ6_bitCount_0f7a4 39 = .ok (.iadd, 1) := by decide +kernel
theorem dJ6_bitCount_0f7a4_40 : decode cJ6_bitCount_0f7a4 40 = .ok (.istore_n 0, 1) := by decide +kernel
theorem dJ6_bitCount_0f7a4_41 : decode cJ6_bitCount_0f7a4 41 = .ok (.iload_n 0, 1) := by decide +kernel
theorem dJ6_bitCount_0f7a4_42 : decode cJ6_bitCount_0f7a4 42 = .ok (.iload_n 0, 1) := by decide +kernel
theorem dJ6_bitCount_0f7a4_43 : decode cJ6_bitCount_0f7a4 43 = .ok (.bipush 16, 2) := by decide +kernel
theorem dJ6_bitCount_0f7a4_45 : decode cJ6_bitCount_0f7a4 45 = .ok (.iushr, 1) := by decide +kernel
theorem dJ6_bitCount_0f7a4_46 : decode cJ6_bitCount_0f7a4 46 = .ok (.iadd, 1) := by decide +kernel
theorem dJ6_bitCount_0f7a4_47 : decode cJ6_bitCount_0f7a4 47 = .ok (.istore_n 0, 1) := by decide +kernel
theorem dJ6_bitCount_0f7a4_48 : decode cJ6_bitCount_0f7a4 48 = .ok (.iload_n 0, 1) := by decide +kernel
theorem dJ6_bitCount_0f7a4_49 : decode cJ6_bitCount_0f7a4 49 = .ok (.bipush 63, 2) := by decide +kernel
theorem dJ6_bitCount_0f7a4_51 : decode cJ6_bitCount_0f7a4 51 = .ok (.iand, 1) := by decide +kernel
theorem dJ6_bitCount_0f7a4_52 : decode cJ6_bitCount_0f7a4 52 = .ok (.ireturn, 1) := by decide +kernel
theorem dJ9_abs_0f7a4_0 : decode cJ9_abs_0f7a4 0 = .ok (.iload_n 0, 1) := by decide +kernel
theorem dJ9_abs_0f7a4_1 : decode cJ9_abs_0f7a4 1 = .ok (.ifCond .ge 8, 3) := by decide +kernel
theorem dJ9_abs_0f7a4_4 : decode cJ9_abs_0f7a4 4 = .ok (.iload_n 0, 1) := by decide +kernel
theorem dJ9_abs_0f7a4_5 : decode cJ9_abs_0f7a4 5 = .ok (.ineg, 1) := by decide +kernel
theorem dJ9_abs_0f7a4_6 : decode cJ9_abs_0f7a4 6 = .ok (.goto 4, 3) := by decide +kernel
theorem dJ9_abs_0f7a4_9 : decode cJ9_abs_0f7a4 9 = .ok (.iload_n 0, 1) := by decide +kernel
theorem dJ9_abs_0f7a4_10 : decode cJ9_abs_0f7a4 10 = .ok (.ireturn, 1) := by decide +kernel
theorem dJ9_max_7cf53_0 : decode cJ9_max_7cf53 0 = .ok (.iload_n 0, 1) := by decide +kernel
theorem dJ9_max_7cf53_1 : decode cJ9_max_7cf53 1 = .ok (.iload_n 1, 1) := by decide +kernel
theorem dJ9_max_7cf53_2 : decode cJ9_max_7cf53 2 = .ok (.if_icmp .lt 7, 3) := by decide +kernel
theorem dJ9_max_7cf53_5 : decode cJ9_max_7cf53 5 = .ok (.iload_n 0, 1) := by decide +kernel
theorem dJ9_max_7cf53_6 : decode cJ9_max_7cf53 6 = .ok (.goto 4, 3) := by decide +kernel
theorem dJ9_max_7cf53_9 : decode cJ9_max_7cf53 9 = .ok (.iload_n 1, 1) := by decide +kernel
theorem dJ9_max_7cf53_10 : decode cJ9_max_7cf53 10 = .ok (.ireturn, 1) := by decide +kernel
theorem dL_addStation_0 : decode cL_addStation 0 = .ok (.aload 7, 2) := by decide +kernel
theorem dL_addStation_2 : decode cL_addStation 2 = .ok (.iconst 0, 1) := by decide +kernel
theorem dL_addStation_3 : decode cL_addStation 3 = .ok (.aload_n 0, 1) := by decide +kernel
theorem dL_addStation_4 : decode cL_addStation 4 = .ok (.iload_n 1, 1) := by decide +kernel
theorem dL_addStation_5 : decode cL_addStation 5 = .ok (.iload_n 2, 1) := by decide +kernel
theorem dL_addStation_6 : decode cL_addStation 6 = .ok (.iload_n 3, 1) := by decide +kernel
theorem dL_addStation_7 : decode cL_addStation 7 = .ok (.iload 4, 2) := by decide +kernel
theorem dL_addStation_9 : decode cL_addStation 9 = .ok (.iload 5, 2) := by decide +kernel
theorem dL_addStation_11 : decode cL_addStation 11 = .ok (.iload 6, 2) := by decide +kernel
theorem dL_addStation_13 : decode cL_addStation 13 = .ok (.invokevirtual 7, 3) := by decide +kernel
theorem dL_addStation_16 : decode cL_addStation 16 = .ok (.i2l, 1) := by decide +kernel
theorem dL_addStation_17 : decode cL_addStation 17 = .ok (.lastore, 1) := by decide +kernel
theorem dL_addStation_18 : decode cL_addStation 18 = .ok (.goto 11, 3) := by decide +kernel
theorem dL_addStation_21 : decode cL_addStation 21 = .ok (.astore 8, 2) := by decide +kernel
theorem dL_addStation_23 : decode cL_addStation 23 = .ok (.iconst 1, 1) := by decide +kernel
theorem dL_addStation_24 : decode cL_addStation 24 = .ok (.ireturn, 1) := by decide +kernel
theorem dL_addStation_25 : decode cL_addStation 25 = .ok (.astore 8, 2) := by decide +kernel
theorem dL_addStation_27 : decode cL_addStation 27 = .ok (.iconst 2, 1) := by decide +kernel
theorem dL_addStation_28 : decode cL_addStation 28 = .ok (.ireturn, 1) := by decide +kernel
theorem dL_addStation_29 : decode cL_addStation 29 = .ok (.iconst 0, 1) := by decide +kernel
theorem dL_addStation_30 : decode cL_addStation 30 = .ok (.ireturn, 1) := by decide +kernel
theorem dL_join_0 : decode cL_join 0 = .ok (.aload_n 3, 1) := by decide +kernel
theorem dL_join_1 : decode cL_join 1 = .ok (.iconst 0, 1) := by decide +kernel
theorem dL_join_2 : decode cL_join 2 = .ok (.aload_n 0, 1) := by decide +kernel
theorem dL_join_3 : decode cL_join 3 = .ok (.iload_n 1, 1) := by decide +kernel
theorem dL_join_4 : decode cL_join 4 = .ok (.iload_n 2, 1) := by decide +kernel
theorem dL_join_5 : decode cL_join 5 = .ok (.invokevirtual 17, 3) := by decide +kernel
theorem dL_join_8 : decode cL_join 8 = .ok (.i2l, 1) := by decide +kernel
theorem dL_join_9 : decode cL_join 9 = .ok (.lastore, 1) := by decide +kernel
theorem dL_join_10 : decode cL_join 10 = .ok (.goto 11, 3) := by decide +kernel
theorem dL_join_13 : decode cL_join 13 = .ok (.astore 4, 2) := by decide +kernel
theorem dL_join_15 : decode cL_join 15 = .ok (.iconst 1, 1) := by decide +kernel
theorem dL_join_16 : decode cL_join 16 = .ok (.ireturn, 1) := by decide +kernel
theorem dL_join_17 : decode cL_join 17 = .ok (.astore 4, 2) := by decide +kernel
theorem dL_join_19 : decode cL_join 19 = .ok (.iconst 2, 1) := by decide +kernel
theorem dL_join_20 : decode cL_join 20 = .ok (.ireturn, 1) := by decide +kernel
theorem dL_join_21 : decode cL_join 21 = .ok (.iconst 0, 1) := by decide +kernel
theorem dL_join_22 : decode cL_join 22 = .ok (.ireturn, 1) := by decide +kernel
theorem dL_turn_0 : decode cL_turn 0 = .ok (.aload_n 3, 1) := by decide +kernel
theorem dL_turn_1 : decode cL_turn 1 = .ok (.iconst 0, 1) := by decide +kernel
theorem dL_turn_2 : decode cL_turn 2 = .ok (.aload_n 0, 1) := by decide +kernel
theorem dL_turn_3 : decode cL_turn 3 = .ok (.iload_n 1, 1) := by decide +kernel
theorem dL_turn_4 : decode cL_turn 4 = .ok (.iload_n 2, 1) := by decide +kernel
theorem dL_turn_5 : decode cL_turn 5 = .ok (.invokevirtual 21, 3) := by decide +kernel
theorem dL_turn_8 : decode cL_turn 8 = .ok (.i2l, 1) := by decide +kernel
theorem dL_turn_9 : decode cL_turn 9 = .ok (.lastore, 1) := by decide +kernel
theorem dL_turn_10 : decode cL_turn 10 = .ok (.goto 11, 3) := by decide +kernel
theorem dL_turn_13 : decode cL_turn 13 = .ok (.astore 4, 2) := by decide +kernel
theorem dL_turn_15 : decode cL_turn 15 = .ok (.iconst 1, 1) := by decide +kernel
theorem dL_turn_16 : decode cL_turn 16 = .ok (.ireturn, 1) := by decide +kernel
theorem dL_turn_17 : decode cL_turn 17 = .ok (.astore 4, 2) := by decide +kernel
theorem dL_turn_19 : decode cL_turn 19 = .ok (.iconst 2, 1) := by decide +kernel
theorem dL_turn_20 : decode cL_turn 20 = .ok (.ireturn, 1) := by decide +kernel
theorem dL_turn_21 : decode cL_turn 21 = .ok (.iconst 0, 1) := by decide +kernel
theorem dL_turn_22 : decode cL_turn 22 = .ok (.ireturn, 1) := by decide +kernel
theorem dL_wind_0 : decode cL_wind 0 = .ok (.aload_n 3, 1) := by decide +kernel
theorem dL_wind_1 : decode cL_wind 1 = .ok (.iconst 0, 1) := by decide +kernel
theorem dL_wind_2 : decode cL_wind 2 = .ok (.aload_n 0, 1) := by decide +kernel
theorem dL_wind_3 : decode cL_wind 3 = .ok (.iload_n 1, 1) := by decide +kernel
theorem dL_wind_4 : decode cL_wind 4 = .ok (.iload_n 2, 1) := by decide +kernel
theorem dL_wind_5 : decode cL_wind 5 = .ok (.invokevirtual 26, 3) := by decide +kernel
theorem dL_wind_8 : decode cL_wind 8 = .ok (.i2l, 1) := by decide +kernel
theorem dL_wind_9 : decode cL_wind 9 = .ok (.lastore, 1) := by decide +kernel
theorem dL_wind_10 : decode cL_wind 10 = .ok (.goto 11, 3) := by decide +kernel
theorem dL_wind_13 : decode cL_wind 13 = .ok (.astore 4, 2) := by decide +kernel
theorem dL_wind_15 : decode cL_wind 15 = .ok (.iconst 1, 1) := by decide +kernel
theorem dL_wind_16 : decode cL_wind 16 = .ok (.ireturn, 1) := by decide +kernel
theorem dL_wind_17 : decode cL_wind 17 = .ok (.astore 4, 2) := by decide +kernel
theorem dL_wind_19 : decode cL_wind 19 = .ok (.iconst 2, 1) := by decide +kernel
theorem dL_wind_20 : decode cL_wind 20 = .ok (.ireturn, 1) := by decide +kernel
theorem dL_wind_21 : decode cL_wind 21 = .ok (.iconst 0, 1) := by decide +kernel
theorem dL_wind_22 : decode cL_wind 22 = .ok (.ireturn, 1) := by decide +kernel
theorem dL_listen_0 : decode cL_listen 0 = .ok (.aload_n 3, 1) := by decide +kernel
theorem dL_listen_1 : decode cL_listen 1 = .ok (.iconst 0, 1) := by decide +kernel
theorem dL_listen_2 : decode cL_listen 2 = .ok (.aload_n 0, 1) := by decide +kernel
theorem dL_listen_3 : decode cL_listen 3 = .ok (.iload_n 1, 1) := by decide +kernel
theorem dL_listen_4 : decode cL_listen 4 = .ok (.iload_n 2, 1) := by decide +kernel
theorem dL_listen_5 : decode cL_listen 5 = .ok (.invokevirtual 29, 3) := by decide +kernel
theorem dL_listen_8 : decode cL_listen 8 = .ok (.ifCond .eq 7, 3) := by decide +kernel
theorem dL_listen_11 : decode cL_listen 11 = .ok (.lconst 1, 1) := by decide +kernel
theorem dL_listen_12 : decode cL_listen 12 = .ok (.goto 4, 3) := by decide +kernel
theorem dL_listen_15 : decode cL_listen 15 = .ok (.lconst 0, 1) := by decide +kernel
theorem dL_listen_16 : decode cL_listen 16 = .ok (.lastore, 1) := by decide +kernel
theorem dL_listen_17 : decode cL_listen 17 = .ok (.goto 7, 3) := by decide +kernel
theorem dL_listen_20 : decode cL_listen 20 = .ok (.astore 4, 2) := by decide +kernel
theorem dL_listen_22 : decode cL_listen 22 = .ok (.iconst 1, 1) := by decide +kernel
theorem dL_listen_23 : decode cL_listen 23 = .ok (.ireturn, 1) := by decide +kernel
theorem dL_listen_24 : decode cL_listen 24 = .ok (.iconst 0, 1) := by decide +kernel
theorem dL_listen_25 : decode cL_listen 25 = .ok (.ireturn, 1) := by decide +kernel
theorem dL_renew_0 : decode cL_renew 0 = .ok (.aload_n 2, 1) := by decide +kernel
theorem dL_renew_1 : decode cL_renew 1 = .ok (.iconst 0, 1) := by decide +kernel
theorem dL_renew_2 : decode cL_renew 2 = .ok (.aload_n 0, 1) := by decide +kernel
theorem dL_renew_3 : decode cL_renew 3 = .ok (.iload_n 1, 1) := by decide +kernel
theorem dL_renew_4 : decode cL_renew 4 = .ok (.invokevirtual 33, 3) := by decide +kernel
theorem dL_renew_7 : decode cL_renew 7 = .ok (.i2l, 1) := by decide +kernel
theorem dL_renew_8 : decode cL_renew 8 = .ok (.lastore, 1) := by decide +kernel
theorem dL_renew_9 : decode cL_renew 9 = .ok (.goto 6, 3) := by decide +kernel
theorem dL_renew_12 : decode cL_renew 12 = .ok (.astore_n 3, 1) := by decide +kernel
theorem dL_renew_13 : decode cL_renew 13 = .ok (.iconst 1, 1) := by decide +kernel
theorem dL_renew_14 : decode cL_renew 14 = .ok (.ireturn, 1) := by decide +kernel
theorem dL_renew_15 : decode cL_renew 15 = .ok (.iconst 0, 1) := by decide +kernel
theorem dL_renew_16 : decode cL_renew 16 = .ok (.ireturn, 1) := by decide +kernel
theorem dL_station_0 : decode cL_station 0 = .ok (.aload_n 3, 1) := by decide +kernel
theorem dL_station_1 : decode cL_station 1 = .ok (.iconst 0, 1) := by decide +kernel
theorem dL_station_2 : decode cL_station 2 = .ok (.aload_n 0, 1) := by decide +kernel
theorem dL_station_3 : decode cL_station 3 = .ok (.iload_n 1, 1) := by decide +kernel
theorem dL_station_4 : decode cL_station 4 = .ok (.iload_n 2, 1) := by decide +kernel
theorem dL_station_5 : decode cL_station 5 = .ok (.invokevirtual 37, 3) := by decide +kernel
theorem dL_station_8 : decode cL_station 8 = .ok (.i2l, 1) := by decide +kernel
theorem dL_station_9 : decode cL_station 9 = .ok (.lastore, 1) := by decide +kernel
theorem dL_station_10 : decode cL_station 10 = .ok (.goto 7, 3) := by decide +kernel
theorem dL_station_13 : decode cL_station 13 = .ok (.astore 4, 2) := by decide +kernel
theorem dL_station_15 : decode cL_station 15 = .ok (.iconst 1, 1) := by decide +kernel
theorem dL_station_16 : decode cL_station 16 = .ok (.ireturn, 1) := by decide +kernel
theorem dL_station_17 : decode cL_station 17 = .ok (.iconst 0, 1) := by decide +kernel
theorem dL_station_18 : decode cL_station 18 = .ok (.ireturn, 1) := by decide +kernel
theorem dL_member_0 : decode cL_member 0 = .ok (.aload_n 3, 1) := by decide +kernel
theorem dL_member_1 : decode cL_member 1 = .ok (.iconst 0, 1) := by decide +kernel
theorem dL_member_2 : decode cL_member 2 = .ok (.aload_n 0, 1) := by decide +kernel
theorem dL_member_3 : decode cL_member 3 = .ok (.iload_n 1, 1) := by decide +kernel
theorem dL_member_4 : decode cL_member 4 = .ok (.iload_n 2, 1) := by decide +kernel
theorem dL_member_5 : decode cL_member 5 = .ok (.invokevirtual 40, 3) := by decide +kernel
theorem dL_member_8 : decode cL_member 8 = .ok (.i2l, 1) := by decide +kernel
theorem dL_member_9 : decode cL_member 9 = .ok (.lastore, 1) := by decide +kernel
theorem dL_member_10 : decode cL_member 10 = .ok (.goto 7, 3) := by decide +kernel
theorem dL_member_13 : decode cL_member 13 = .ok (.astore 4, 2) := by decide +kernel
theorem dL_member_15 : decode cL_member 15 = .ok (.iconst 1, 1) := by decide +kernel
theorem dL_member_16 : decode cL_member 16 = .ok (.ireturn, 1) := by decide +kernel
theorem dL_member_17 : decode cL_member 17 = .ok (.iconst 0, 1) := by decide +kernel
theorem dL_member_18 : decode cL_member 18 = .ok (.ireturn, 1) := by decide +kernel
theorem dL_strength_0 : decode cL_strength 0 = .ok (.aload_n 3, 1) := by decide +kernel
theorem dL_strength_1 : decode cL_strength 1 = .ok (.iconst 0, 1) := by decide +kernel
theorem dL_strength_2 : decode cL_strength 2 = .ok (.aload_n 0, 1) := by decide +kernel
theorem dL_strength_3 : decode cL_strength 3 = .ok (.iload_n 1, 1) := by decide +kernel
theorem dL_strength_4 : decode cL_strength 4 = .ok (.iload_n 2, 1) := by decide +kernel
theorem dL_strength_5 : decode cL_strength 5 = .ok (.invokevirtual 43, 3) := by decide +kernel
theorem dL_strength_8 : decode cL_strength 8 = .ok (.i2l, 1) := by decide +kernel
theorem dL_strength_9 : decode cL_strength 9 = .ok (.lastore, 1) := by decide +kernel
theorem dL_strength_10 : decode cL_strength 10 = .ok (.goto 7, 3) := by decide +kernel
theorem dL_strength_13 : decode cL_strength 13 = .ok (.astore 4, 2) := by decide +kernel
theorem dL_strength_15 : decode cL_strength 15 = .ok (.iconst 1, 1) := by decide +kernel
theorem dL_strength_16 : decode cL_strength 16 = .ok (.ireturn, 1) := by decide +kernel
theorem dL_strength_17 : decode cL_strength 17 = .ok (.iconst 0, 1) := by decide +kernel
theorem dL_strength_18 : decode cL_strength 18 = .ok (.ireturn, 1) := by decide +kernel
theorem dL_hears_0 : decode cL_hears 0 = .ok (.aload_n 2, 1) := by decide +kernel
theorem dL_hears_1 : decode cL_hears 1 = .ok (.iconst 0, 1) := by decide +kernel
theorem dL_hears_2 : decode cL_hears 2 = .ok (.aload_n 0, 1) := by decide +kernel
theorem dL_hears_3 : decode cL_hears 3 = .ok (.iload_n 1, 1) := by decide +kernel
theorem dL_hears_4 : decode cL_hears 4 = .ok (.invokevirtual 46, 3) := by decide +kernel
theorem dL_hears_7 : decode cL_hears 7 = .ok (.i2l, 1) := by decide +kernel
theorem dL_hears_8 : decode cL_hears 8 = .ok (.lastore, 1) := by decide +kernel
theorem dL_hears_9 : decode cL_hears 9 = .ok (.goto 6, 3) := by decide +kernel
theorem dL_hears_12 : decode cL_hears 12 = .ok (.astore_n 3, 1) := by decide +kernel
theorem dL_hears_13 : decode cL_hears 13 = .ok (.iconst 1, 1) := by decide +kernel
theorem dL_hears_14 : decode cL_hears 14 = .ok (.ireturn, 1) := by decide +kernel
theorem dL_hears_15 : decode cL_hears 15 = .ok (.iconst 0, 1) := by decide +kernel
theorem dL_hears_16 : decode cL_hears 16 = .ok (.ireturn, 1) := by decide +kernel
theorem dL_log_0 : decode cL_log 0 = .ok (.aload 4, 2) := by decide +kernel
theorem dL_log_2 : decode cL_log 2 = .ok (.iconst 0, 1) := by decide +kernel
theorem dL_log_3 : decode cL_log 3 = .ok (.aload_n 0, 1) := by decide +kernel
theorem dL_log_4 : decode cL_log 4 = .ok (.iload_n 1, 1) := by decide +kernel
theorem dL_log_5 : decode cL_log 5 = .ok (.iload_n 2, 1) := by decide +kernel
theorem dL_log_6 : decode cL_log 6 = .ok (.iload_n 3, 1) := by decide +kernel
theorem dL_log_7 : decode cL_log 7 = .ok (.invokevirtual 49, 3) := by decide +kernel
theorem dL_log_10 : decode cL_log 10 = .ok (.i2l, 1) := by decide +kernel
theorem dL_log_11 : decode cL_log 11 = .ok (.lastore, 1) := by decide +kernel
theorem dL_log_12 : decode cL_log 12 = .ok (.goto 7, 3) := by decide +kernel
theorem dL_log_15 : decode cL_log 15 = .ok (.astore 5, 2) := by decide +kernel
theorem dL_log_17 : decode cL_log 17 = .ok (.iconst 1, 1) := by decide +kernel
theorem dL_log_18 : decode cL_log 18 = .ok (.ireturn, 1) := by decide +kernel
theorem dL_log_19 : decode cL_log 19 = .ok (.iconst 0, 1) := by decide +kernel
theorem dL_log_20 : decode cL_log 20 = .ok (.ireturn, 1) := by decide +kernel
theorem dL_write_0 : decode cL_write 0 = .ok (.aload_n 3, 1) := by decide +kernel
theorem dL_write_1 : decode cL_write 1 = .ok (.iconst 0, 1) := by decide +kernel
theorem dL_write_2 : decode cL_write 2 = .ok (.aload_n 0, 1) := by decide +kernel
theorem dL_write_3 : decode cL_write 3 = .ok (.iload_n 1, 1) := by decide +kernel
theorem dL_write_4 : decode cL_write 4 = .ok (.iload_n 2, 1) := by decide +kernel
theorem dL_write_5 : decode cL_write 5 = .ok (.invokevirtual 53, 3) := by decide +kernel
theorem dL_write_8 : decode cL_write 8 = .ok (.i2l, 1) := by decide +kernel
theorem dL_write_9 : decode cL_write 9 = .ok (.lastore, 1) := by decide +kernel
theorem dL_write_10 : decode cL_write 10 = .ok (.goto 11, 3) := by decide +kernel
theorem dL_write_13 : decode cL_write 13 = .ok (.astore 4, 2) := by decide +kernel
theorem dL_write_15 : decode cL_write 15 = .ok (.iconst 1, 1) := by decide +kernel
theorem dL_write_16 : decode cL_write 16 = .ok (.ireturn, 1) := by decide +kernel
theorem dL_write_17 : decode cL_write 17 = .ok (.astore 4, 2) := by decide +kernel
theorem dL_write_19 : decode cL_write 19 = .ok (.iconst 2, 1) := by decide +kernel
theorem dL_write_20 : decode cL_write 20 = .ok (.ireturn, 1) := by decide +kernel
theorem dL_write_21 : decode cL_write 21 = .ok (.iconst 0, 1) := by decide +kernel
theorem dL_write_22 : decode cL_write 22 = .ok (.ireturn, 1) := by decide +kernel
theorem dL_pass_0 : decode cL_pass 0 = .ok (.aload_n 2, 1) := by decide +kernel
theorem dL_pass_1 : decode cL_pass 1 = .ok (.iconst 0, 1) := by decide +kernel
theorem dL_pass_2 : decode cL_pass 2 = .ok (.aload_n 0, 1) := by decide +kernel
theorem dL_pass_3 : decode cL_pass 3 = .ok (.iload_n 1, 1) := by decide +kernel
theorem dL_pass_4 : decode cL_pass 4 = .ok (.invokevirtual 56, 3) := by decide +kernel
theorem dL_pass_7 : decode cL_pass 7 = .ok (.i2l, 1) := by decide +kernel
theorem dL_pass_8 : decode cL_pass 8 = .ok (.lastore, 1) := by decide +kernel
theorem dL_pass_9 : decode cL_pass 9 = .ok (.goto 6, 3) := by decide +kernel
theorem dL_pass_12 : decode cL_pass 12 = .ok (.astore_n 3, 1) := by decide +kernel
theorem dL_pass_13 : decode cL_pass 13 = .ok (.iconst 1, 1) := by decide +kernel
theorem dL_pass_14 : decode cL_pass 14 = .ok (.ireturn, 1) := by decide +kernel
theorem dL_pass_15 : decode cL_pass 15 = .ok (.iconst 0, 1) := by decide +kernel
theorem dL_pass_16 : decode cL_pass 16 = .ok (.ireturn, 1) := by decide +kernel
theorem dL_count_0 : decode cL_count 0 = .ok (.aload_n 2, 1) := by decide +kernel
theorem dL_count_1 : decode cL_count 1 = .ok (.iconst 0, 1) := by decide +kernel
theorem dL_count_2 : decode cL_count 2 = .ok (.aload_n 0, 1) := by decide +kernel
theorem dL_count_3 : decode cL_count 3 = .ok (.iload_n 1, 1) := by decide +kernel
theorem dL_count_4 : decode cL_count 4 = .ok (.invokevirtual 59, 3) := by decide +kernel
theorem dL_count_7 : decode cL_count 7 = .ok (.i2l, 1) := by decide +kernel
theorem dL_count_8 : decode cL_count 8 = .ok (.lastore, 1) := by decide +kernel
theorem dL_count_9 : decode cL_count 9 = .ok (.goto 6, 3) := by decide +kernel
theorem dL_count_12 : decode cL_count 12 = .ok (.astore_n 3, 1) := by decide +kernel
theorem dL_count_13 : decode cL_count 13 = .ok (.iconst 1, 1) := by decide +kernel
theorem dL_count_14 : decode cL_count 14 = .ok (.ireturn, 1) := by decide +kernel
theorem dL_count_15 : decode cL_count 15 = .ok (.iconst 0, 1) := by decide +kernel
theorem dL_count_16 : decode cL_count 16 = .ok (.ireturn, 1) := by decide +kernel
theorem dL_rank_0 : decode cL_rank 0 = .ok (.aload_n 2, 1) := by decide +kernel
theorem dL_rank_1 : decode cL_rank 1 = .ok (.iconst 0, 1) := by decide +kernel
theorem dL_rank_2 : decode cL_rank 2 = .ok (.aload_n 0, 1) := by decide +kernel
theorem dL_rank_3 : decode cL_rank 3 = .ok (.iload_n 1, 1) := by decide +kernel
theorem dL_rank_4 : decode cL_rank 4 = .ok (.invokevirtual 62, 3) := by decide +kernel
theorem dL_rank_7 : decode cL_rank 7 = .ok (.i2l, 1) := by decide +kernel
theorem dL_rank_8 : decode cL_rank 8 = .ok (.lastore, 1) := by decide +kernel
theorem dL_rank_9 : decode cL_rank 9 = .ok (.goto 6, 3) := by decide +kernel
theorem dL_rank_12 : decode cL_rank 12 = .ok (.astore_n 3, 1) := by decide +kernel
theorem dL_rank_13 : decode cL_rank 13 = .ok (.iconst 1, 1) := by decide +kernel
theorem dL_rank_14 : decode cL_rank 14 = .ok (.ireturn, 1) := by decide +kernel
theorem dL_rank_15 : decode cL_rank 15 = .ok (.iconst 0, 1) := by decide +kernel
theorem dL_rank_16 : decode cL_rank 16 = .ok (.ireturn, 1) := by decide +kernel
theorem dL_dial_0 : decode cL_dial 0 = .ok (.aload_n 3, 1) := by decide +kernel
theorem dL_dial_1 : decode cL_dial 1 = .ok (.iconst 0, 1) := by decide +kernel
theorem dL_dial_2 : decode cL_dial 2 = .ok (.aload_n 0, 1) := by decide +kernel
theorem dL_dial_3 : decode cL_dial 3 = .ok (.iload_n 1, 1) := by decide +kernel
theorem dL_dial_4 : decode cL_dial 4 = .ok (.iload_n 2, 1) := by decide +kernel
theorem dL_dial_5 : decode cL_dial 5 = .ok (.invokevirtual 65, 3) := by decide +kernel
theorem dL_dial_8 : decode cL_dial 8 = .ok (.i2l, 1) := by decide +kernel
theorem dL_dial_9 : decode cL_dial 9 = .ok (.lastore, 1) := by decide +kernel
theorem dL_dial_10 : decode cL_dial 10 = .ok (.goto 7, 3) := by decide +kernel
theorem dL_dial_13 : decode cL_dial 13 = .ok (.astore 4, 2) := by decide +kernel
theorem dL_dial_15 : decode cL_dial 15 = .ok (.iconst 1, 1) := by decide +kernel
theorem dL_dial_16 : decode cL_dial 16 = .ok (.ireturn, 1) := by decide +kernel
theorem dL_dial_17 : decode cL_dial 17 = .ok (.iconst 0, 1) := by decide +kernel
theorem dL_dial_18 : decode cL_dial 18 = .ok (.ireturn, 1) := by decide +kernel
theorem dL_next_0 : decode cL_next 0 = .ok (.aload_n 3, 1) := by decide +kernel
theorem dL_next_1 : decode cL_next 1 = .ok (.iconst 0, 1) := by decide +kernel
theorem dL_next_2 : decode cL_next 2 = .ok (.aload_n 0, 1) := by decide +kernel
theorem dL_next_3 : decode cL_next 3 = .ok (.iload_n 1, 1) := by decide +kernel
theorem dL_next_4 : decode cL_next 4 = .ok (.iload_n 2, 1) := by decide +kernel
theorem dL_next_5 : decode cL_next 5 = .ok (.invokevirtual 68, 3) := by decide +kernel
theorem dL_next_8 : decode cL_next 8 = .ok (.i2l, 1) := by decide +kernel
theorem dL_next_9 : decode cL_next 9 = .ok (.lastore, 1) := by decide +kernel
theorem dL_next_10 : decode cL_next 10 = .ok (.goto 7, 3) := by decide +kernel
theorem dL_next_13 : decode cL_next 13 = .ok (.astore 4, 2) := by decide +kernel
theorem dL_next_15 : decode cL_next 15 = .ok (.iconst 1, 1) := by decide +kernel
theorem dL_next_16 : decode cL_next 16 = .ok (.ireturn, 1) := by decide +kernel
theorem dL_next_17 : decode cL_next 17 = .ok (.iconst 0, 1) := by decide +kernel
theorem dL_next_18 : decode cL_next 18 = .ok (.ireturn, 1) := by decide +kernel
theorem dL_apart_0 : decode cL_apart 0 = .ok (.aload 4, 2) := by decide +kernel
theorem dL_apart_2 : decode cL_apart 2 = .ok (.iconst 0, 1) := by decide +kernel
theorem dL_apart_3 : decode cL_apart 3 = .ok (.aload_n 0, 1) := by decide +kernel
theorem dL_apart_4 : decode cL_apart 4 = .ok (.iload_n 1, 1) := by decide +kernel
theorem dL_apart_5 : decode cL_apart 5 = .ok (.iload_n 2, 1) := by decide +kernel
theorem dL_apart_6 : decode cL_apart 6 = .ok (.iload_n 3, 1) := by decide +kernel
theorem dL_apart_7 : decode cL_apart 7 = .ok (.invokevirtual 71, 3) := by decide +kernel
theorem dL_apart_10 : decode cL_apart 10 = .ok (.i2l, 1) := by decide +kernel
theorem dL_apart_11 : decode cL_apart 11 = .ok (.lastore, 1) := by decide +kernel
theorem dL_apart_12 : decode cL_apart 12 = .ok (.goto 11, 3) := by decide +kernel
theorem dL_apart_15 : decode cL_apart 15 = .ok (.astore 5, 2) := by decide +kernel
theorem dL_apart_17 : decode cL_apart 17 = .ok (.iconst 1, 1) := by decide +kernel
theorem dL_apart_18 : decode cL_apart 18 = .ok (.ireturn, 1) := by decide +kernel
theorem dL_apart_19 : decode cL_apart 19 = .ok (.astore 5, 2) := by decide +kernel
theorem dL_apart_21 : decode cL_apart 21 = .ok (.iconst 2, 1) := by decide +kernel
theorem dL_apart_22 : decode cL_apart 22 = .ok (.ireturn, 1) := by decide +kernel
theorem dL_apart_23 : decode cL_apart 23 = .ok (.iconst 0, 1) := by decide +kernel
theorem dL_apart_24 : decode cL_apart 24 = .ok (.ireturn, 1) := by decide +kernel
theorem dL_foresee_0 : decode cL_foresee 0 = .ok (.aload_n 3, 1) := by decide +kernel
theorem dL_foresee_1 : decode cL_foresee 1 = .ok (.iconst 0, 1) := by decide +kernel
theorem dL_foresee_2 : decode cL_foresee 2 = .ok (.aload_n 0, 1) := by decide +kernel
theorem dL_foresee_3 : decode cL_foresee 3 = .ok (.iload_n 1, 1) := by decide +kernel
theorem dL_foresee_4 : decode cL_foresee 4 = .ok (.iload_n 2, 1) := by decide +kernel
theorem dL_foresee_5 : decode cL_foresee 5 = .ok (.invokevirtual 74, 3) := by decide +kernel
theorem dL_foresee_8 : decode cL_foresee 8 = .ok (.i2l, 1) := by decide +kernel
theorem dL_foresee_9 : decode cL_foresee 9 = .ok (.lastore, 1) := by decide +kernel
theorem dL_foresee_10 : decode cL_foresee 10 = .ok (.goto 11, 3) := by decide +kernel
theorem dL_foresee_13 : decode cL_foresee 13 = .ok (.astore 4, 2) := by decide +kernel
theorem dL_foresee_15 : decode cL_foresee 15 = .ok (.iconst 1, 1) := by decide +kernel
theorem dL_foresee_16 : decode cL_foresee 16 = .ok (.ireturn, 1) := by decide +kernel
theorem dL_foresee_17 : decode cL_foresee 17 = .ok (.astore 4, 2) := by decide +kernel
theorem dL_foresee_19 : decode cL_foresee 19 = .ok (.iconst 2, 1) := by decide +kernel
theorem dL_foresee_20 : decode cL_foresee 20 = .ok (.ireturn, 1) := by decide +kernel
theorem dL_foresee_21 : decode cL_foresee 21 = .ok (.iconst 0, 1) := by decide +kernel
theorem dL_foresee_22 : decode cL_foresee 22 = .ok (.ireturn, 1) := by decide +kernel
end
section
/-! the good words of the tables: gW; each word that a walk needs, with the row that it is there -/
def gW : List Cond := lw_tbl.filter goodWord
theorem gW_tbl : ∀ w ∈ gW, w ∈ lw_tbl := fun _ h => (List.mem_filter.mp h).1
theorem gW_good : ∀ w ∈ gW, (w.onTables && w.keeps) = true ∨ ∃ ty, w = .arrayClass ty := fun _ h => good_of_word (List.mem_filter.mp h).2
theorem gW_s {w : Cond} (h : w ∈ k2_sels lw_privs) (g : goodWord w = true) : w ∈ gW := List.mem_filter.mpr ⟨List.mem_append_left _ h, g⟩
theorem gW_1 {w : Cond} (h : w ∈ tables_1_1) (g : goodWord w = true) : w ∈ gW := List.mem_filter.mpr ⟨List.mem_append_right _ (List.mem_append_left _ h), g⟩
theorem gW_2 {w : Cond} (h : w ∈ tables_1_2) (g : goodWord w = true) : w ∈ gW := List.mem_filter.mpr ⟨List.mem_append_right _ (List.mem_append_right _ (List.mem_append_left _ h)), g⟩
theorem gW_3 {w : Cond} (h : w ∈ tables_1_3) (g : goodWord w = true) : w ∈ gW := List.mem_filter.mpr ⟨List.mem_append_right _ (List.mem_append_right _ (List.mem_append_right _ (List.mem_append_left _ h))), g⟩
theorem gW_4 {w : Cond} (h : w ∈ tables_1_4) (g : goodWord w = true) : w ∈ gW := List.mem_filter.mpr ⟨List.mem_append_right _ (List.mem_append_right _ (List.mem_append_right _ (List.mem_append_right _ (List.mem_append_left _ h)))), g⟩
theorem gW_5 {w : Cond} (h : w ∈ tables_1_5) (g : goodWord w = true) : w ∈ gW := List.mem_filter.mpr ⟨List.mem_append_right _ (List.mem_append_right _ (List.mem_append_right _ (List.mem_append_right _ (List.mem_append_right _ h)))), g⟩
theorem w1_0 : Cond.initialized RL ∈ gW := gW_1 (List.mem_of_getElem? (i := 0) rfl) rfl
theorem w1_1 : Cond.initialized RX6 ∈ gW := gW_1 (List.mem_of_getElem? (i := 1) rfl) rfl
theorem w1_2 : Cond.initialized RX0 ∈ gW := gW_1 (List.mem_of_getElem? (i := 2) rfl) rfl
theorem w1_3 : Cond.initialized RX3 ∈ gW := gW_1 (List.mem_of_getElem? (i := 3) rfl) rfl
theorem w1_4 : Cond.initialized RX1 ∈ gW := gW_1 (List.mem_of_getElem? (i := 4) rfl) rfl
theorem w1_5 : Cond.initialized RX5 ∈ gW := gW_1 (List.mem_of_getElem? (i := 5) rfl) rfl
theorem w1_6 : Cond.initialized RJ9 ∈ gW := gW_1 (List.mem_of_getElem? (i := 6) rfl) rfl
theorem w1_7 : Cond.initialized RX2 ∈ gW := gW_1 (List.mem_of_getElem? (i := 7) rfl) rfl
theorem w1_8 : Cond.initialized RX8 ∈ gW := gW_1 (List.mem_of_getElem? (i := 8) rfl) rfl
theorem w1_9 : Cond.initialized RX7 ∈ gW := gW_1 (List.mem_of_getElem? (i := 9) rfl) rfl
theorem w1_10 : Cond.initialized "java/lang/Throwable" ∈ gW := gW_1 (List.mem_of_getElem? (i := 10) rfl) rfl
theorem w1_11 : Cond.initialized "java/lang/Exception" ∈ gW := gW_1 (List.mem_of_getElem? (i := 11) rfl) rfl
theorem w1_12 : Cond.initialized "java/lang/RuntimeException" ∈ gW := gW_1 (List.mem_of_getElem? (i := 12) rfl) rfl
theorem w1_13 : Cond.initialized "java/lang/IllegalArgumentException" ∈ gW := gW_1 (List.mem_of_getElem? (i := 13) rfl) rfl
theorem w1_14 : Cond.initialized "java/lang/IllegalStateException" ∈ gW := gW_1 (List.mem_of_getElem? (i := 14) rfl) rfl
theorem w1_15 : Cond.initialized RX4 ∈ gW := gW_1 (List.mem_of_getElem? (i := 15) rfl) rfl
theorem w1_16 : Cond.initialized RJ10 ∈ gW := gW_1 (List.mem_of_getElem? (i := 16) rfl) rfl
theorem w1_17 : Cond.initialized "java/lang/IndexOutOfBoundsException" ∈ gW := gW_1 (List.mem_of_getElem? (i := 17) rfl) rfl
theorem w1_18 : Cond.initialized RJ6 ∈ gW := gW_1 (List.mem_of_getElem? (i := 18) rfl) rfl
theorem w1_19 : Cond.classLink RL 8 RX6 ∈ gW := gW_1 (List.mem_of_getElem? (i := 19) rfl) rfl
theorem w1_20 : Cond.instantiable RX6 3 ∈ gW := gW_1 (List.mem_of_getElem? (i := 20) rfl) rfl
theorem w1_21 : Cond.methodLink RL 77 yX6_init ∈ gW := gW_1 (List.mem_of_getElem? (i := 21) rfl) rfl
theorem w1_22 : Cond.instanceMethod yX6_init ∈ gW := gW_1 (List.mem_of_getElem? (i := 22) rfl) rfl
theorem w1_23 : Cond.code yX6_init cX6_init 1 none ∈ gW := gW_1 (List.mem_of_getElem? (i := 23) rfl) rfl
theorem w1_24 : Cond.methodLink RX6 1 ⟨"java/lang/Object", "<init>", "()V"⟩ ∈ gW := gW_1 (List.mem_of_getElem? (i := 24) rfl) rfl
theorem w1_25 : Cond.instanceMethod ⟨"java/lang/Object", "<init>", "()V"⟩ ∈ gW := gW_1 (List.mem_of_getElem? (i := 25) rfl) rfl
theorem w1_26 : Cond.code ⟨"java/lang/Object", "<init>", "()V"⟩ object_method_1_code 1 none ∈ gW := gW_1 (List.mem_of_getElem? (i := 26) rfl) rfl
theorem w1_27 : Cond.classLink RX6 7 RX0 ∈ gW := gW_1 (List.mem_of_getElem? (i := 27) rfl) rfl
theorem w1_28 : Cond.instantiable RX0 7 ∈ gW := gW_1 (List.mem_of_getElem? (i := 28) rfl) rfl
theorem w1_29 : Cond.methodLink RX6 9 yX0_init ∈ gW := gW_1 (List.mem_of_getElem? (i := 29) rfl) rfl
theorem w1_30 : Cond.instanceMethod yX0_init ∈ gW := gW_1 (List.mem_of_getElem? (i := 30) rfl) rfl
theorem w1_31 : Cond.code yX0_init cX0_init 2 none ∈ gW := gW_1 (List.mem_of_getElem? (i := 31) rfl) rfl
theorem w1_32 : Cond.methodLink RX0 3 ⟨"java/lang/Object", "<init>", "()V"⟩ ∈ gW := gW_1 (List.mem_of_getElem? (i := 32) rfl) rfl
theorem w1_33 : Cond.classLink RX0 9 RX4 ∈ gW := gW_1 (List.mem_of_getElem? (i := 33) rfl) rfl
theorem w1_35 : Cond.classLink RX0 17 RX3 ∈ gW := gW_1 (List.mem_of_getElem? (i := 35) rfl) rfl
theorem w1_37 : Cond.instantiable RX3 3 ∈ gW := gW_1 (List.mem_of_getElem? (i := 37) rfl) rfl
theorem w1_38 : Cond.methodLink RX0 23 yX3_init ∈ gW := gW_1 (List.mem_of_getElem? (i := 38) rfl) rfl
theorem w1_39 : Cond.instanceMethod yX3_init ∈ gW := gW_1 (List.mem_of_getElem? (i := 39) rfl) rfl
theorem w1_40 : Cond.code yX3_init cX3_init 1 none ∈ gW := gW_1 (List.mem_of_getElem? (i := 40) rfl) rfl
theorem w1_41 : Cond.methodLink RX3 3 ⟨"java/lang/Object", "<init>", "()V"⟩ ∈ gW := gW_1 (List.mem_of_getElem? (i := 41) rfl) rfl
theorem w1_42 : Cond.classLink RX3 9 RX1 ∈ gW := gW_1 (List.mem_of_getElem? (i := 42) rfl) rfl
theorem w1_43 : Cond.instantiable RX1 6 ∈ gW := gW_1 (List.mem_of_getElem? (i := 43) rfl) rfl
theorem w1_45 : Cond.instanceMethod yX1_init ∈ gW := gW_1 (List.mem_of_getElem? (i := 45) rfl) rfl
theorem w1_46 : Cond.code yX1_init cX1_init 1 none ∈ gW := gW_1 (List.mem_of_getElem? (i := 46) rfl) rfl
theorem w1_47 : Cond.methodLink RX1 1 ⟨"java/lang/Object", "<init>", "()V"⟩ ∈ gW := gW_1 (List.mem_of_getElem? (i := 47) rfl) rfl
theorem w1_48 : Cond.fieldLink RX1 7 "CrystalClub$CrystalSet" "turns" "I" ∈ gW := gW_1 (List.mem_of_getElem? (i := 48) rfl) rfl
theorem w1_51 : Cond.fieldLink RX1 13 "CrystalClub$CrystalSet" "dial" "I" ∈ gW := gW_1 (List.mem_of_getElem? (i := 51) rfl) rfl
theorem w1_55 : Cond.fieldLink RX1 34 "CrystalClub$CrystalSet" "aerial" "I" ∈ gW := gW_1 (List.mem_of_getElem? (i := 55) rfl) rfl
theorem w1_58 : Cond.fieldLink RX1 37 "CrystalClub$CrystalSet" "crystal" "I" ∈ gW := gW_1 (List.mem_of_getElem? (i := 58) rfl) rfl
theorem w1_61 : Cond.fieldLink RX1 23 "CrystalClub$CrystalSet" "tuned" "I" ∈ gW := gW_1 (List.mem_of_getElem? (i := 61) rfl) rfl
theorem w1_63 : Cond.fieldLink RX1 31 "CrystalClub$CrystalSet" "width" "I" ∈ gW := gW_1 (List.mem_of_getElem? (i := 63) rfl) rfl
theorem w1_65 : Cond.lays RX1 "CrystalClub$CrystalSet" "turns" "I" ∈ gW := gW_1 (List.mem_of_getElem? (i := 65) rfl) rfl
theorem w1_67 : Cond.lays RX1 "CrystalClub$CrystalSet" "dial" "I" ∈ gW := gW_1 (List.mem_of_getElem? (i := 67) rfl) rfl
theorem w1_69 : Cond.lays RX1 "CrystalClub$CrystalSet" "aerial" "I" ∈ gW := gW_1 (List.mem_of_getElem? (i := 69) rfl) rfl
theorem w1_71 : Cond.lays RX1 "CrystalClub$CrystalSet" "crystal" "I" ∈ gW := gW_1 (List.mem_of_getElem? (i := 71) rfl) rfl
theorem w1_73 : Cond.lays RX1 "CrystalClub$CrystalSet" "tuned" "I" ∈ gW := gW_1 (List.mem_of_getElem? (i := 73) rfl) rfl
theorem w1_75 : Cond.lays RX1 "CrystalClub$CrystalSet" "width" "I" ∈ gW := gW_1 (List.mem_of_getElem? (i := 75) rfl) rfl
theorem w1_78 : Cond.classLink RX3 18 RX5 ∈ gW := gW_1 (List.mem_of_getElem? (i := 78) rfl) rfl
theorem w1_79 : Cond.instantiable RX5 3 ∈ gW := gW_1 (List.mem_of_getElem? (i := 79) rfl) rfl
theorem w1_80 : Cond.methodLink RX3 20 yX5_init ∈ gW := gW_1 (List.mem_of_getElem? (i := 80) rfl) rfl
theorem w1_81 : Cond.instanceMethod yX5_init ∈ gW := gW_1 (List.mem_of_getElem? (i := 81) rfl) rfl
theorem w1_82 : Cond.code yX5_init cX5_init 3 none ∈ gW := gW_1 (List.mem_of_getElem? (i := 82) rfl) rfl
theorem w1_83 : Cond.methodLink RX5 1 ⟨"java/lang/Object", "<init>", "()V"⟩ ∈ gW := gW_1 (List.mem_of_getElem? (i := 83) rfl) rfl
theorem w1_84 : Cond.methodLink RX5 13 Lib.Math.max.name ∈ gW := gW_1 (List.mem_of_getElem? (i := 84) rfl) rfl
theorem w1_85 : Cond.static Lib.Math.max.name ∈ gW := gW_1 (List.mem_of_getElem? (i := 85) rfl) rfl
theorem w1_86 : Cond.code Lib.Math.max.name cJ9_max_7cf53 2 (some .int) ∈ gW := gW_1 (List.mem_of_getElem? (i := 86) rfl) rfl
theorem w1_87 : Cond.fieldLink RX5 7 "CrystalClub$Table" "columns" "I" ∈ gW := gW_1 (List.mem_of_getElem? (i := 87) rfl) rfl
theorem w1_89 : Cond.fieldLink RX5 19 "CrystalClub$Table" "cells" "[I" ∈ gW := gW_1 (List.mem_of_getElem? (i := 89) rfl) rfl
theorem w1_90 : Cond.fieldLink RX5 23 "CrystalClub$Table" "size" "I" ∈ gW := gW_1 (List.mem_of_getElem? (i := 90) rfl) rfl
theorem w1_94 : Cond.laysFinal RX5 "CrystalClub$Table" "columns" "I" ∈ gW := gW_1 (List.mem_of_getElem? (i := 94) rfl) rfl
theorem w1_96 : Cond.laysFinal RX5 "CrystalClub$Table" "cells" "[I" ∈ gW := gW_1 (List.mem_of_getElem? (i := 96) rfl) rfl
theorem w1_98 : Cond.lays RX5 "CrystalClub$Table" "size" "I" ∈ gW := gW_1 (List.mem_of_getElem? (i := 98) rfl) rfl
theorem w1_101 : Cond.arrayClass .int ∈ gW := gW_1 (List.mem_of_getElem? (i := 101) rfl) rfl
theorem w1_102 : Cond.fieldLink RX3 12 "CrystalClub$Member" "set" "LCrystalClub$CrystalSet;" ∈ gW := gW_1 (List.mem_of_getElem? (i := 102) rfl) rfl
theorem w1_105 : Cond.fieldLink RX3 23 "CrystalClub$Member" "lines" "LCrystalClub$Table;" ∈ gW := gW_1 (List.mem_of_getElem? (i := 105) rfl) rfl
theorem w1_108 : Cond.fieldLink RX3 37 "CrystalClub$Member" "listens" "Z" ∈ gW := gW_1 (List.mem_of_getElem? (i := 108) rfl) rfl
theorem w1_111 : Cond.laysFinal RX3 "CrystalClub$Member" "set" "LCrystalClub$CrystalSet;" ∈ gW := gW_1 (List.mem_of_getElem? (i := 111) rfl) rfl
theorem w1_113 : Cond.laysFinal RX3 "CrystalClub$Member" "lines" "LCrystalClub$Table;" ∈ gW := gW_1 (List.mem_of_getElem? (i := 113) rfl) rfl
theorem w1_115 : Cond.lays RX3 "CrystalClub$Member" "listens" "Z" ∈ gW := gW_1 (List.mem_of_getElem? (i := 115) rfl) rfl
theorem w1_118 : Cond.classLink RX0 24 RX5 ∈ gW := gW_1 (List.mem_of_getElem? (i := 118) rfl) rfl
theorem w1_119 : Cond.methodLink RX0 26 yX5_init ∈ gW := gW_1 (List.mem_of_getElem? (i := 119) rfl) rfl
theorem w1_120 : Cond.classLink RX0 33 RX2 ∈ gW := gW_1 (List.mem_of_getElem? (i := 120) rfl) rfl
theorem w1_121 : Cond.instantiable RX2 4 ∈ gW := gW_1 (List.mem_of_getElem? (i := 121) rfl) rfl
theorem w1_123 : Cond.instanceMethod yX2_init ∈ gW := gW_1 (List.mem_of_getElem? (i := 123) rfl) rfl
theorem w1_124 : Cond.code yX2_init cX2_init 1 none ∈ gW := gW_1 (List.mem_of_getElem? (i := 124) rfl) rfl
theorem w1_125 : Cond.methodLink RX2 3 ⟨"java/lang/Object", "<init>", "()V"⟩ ∈ gW := gW_1 (List.mem_of_getElem? (i := 125) rfl) rfl
theorem w1_126 : Cond.fieldLink RX2 9 "CrystalClub$Hearing" "inReach" "I" ∈ gW := gW_1 (List.mem_of_getElem? (i := 126) rfl) rfl
theorem w1_127 : Cond.fieldLink RX2 15 "CrystalClub$Hearing" "loudest" "I" ∈ gW := gW_1 (List.mem_of_getElem? (i := 127) rfl) rfl
theorem w1_128 : Cond.fieldLink RX2 18 "CrystalClub$Hearing" "strength" "I" ∈ gW := gW_1 (List.mem_of_getElem? (i := 128) rfl) rfl
theorem w1_130 : Cond.fieldLink RX2 21 "CrystalClub$Hearing" "runnerUp" "I" ∈ gW := gW_1 (List.mem_of_getElem? (i := 130) rfl) rfl
theorem w1_131 : Cond.lays RX2 "CrystalClub$Hearing" "inReach" "I" ∈ gW := gW_1 (List.mem_of_getElem? (i := 131) rfl) rfl
theorem w1_133 : Cond.lays RX2 "CrystalClub$Hearing" "loudest" "I" ∈ gW := gW_1 (List.mem_of_getElem? (i := 133) rfl) rfl
theorem w1_135 : Cond.lays RX2 "CrystalClub$Hearing" "strength" "I" ∈ gW := gW_1 (List.mem_of_getElem? (i := 135) rfl) rfl
theorem w1_137 : Cond.lays RX2 "CrystalClub$Hearing" "runnerUp" "I" ∈ gW := gW_1 (List.mem_of_getElem? (i := 137) rfl) rfl
theorem w1_140 : Cond.fieldLink RX0 11 "CrystalClub$Club" "stations" "[LCrystalClub$Station;" ∈ gW := gW_1 (List.mem_of_getElem? (i := 140) rfl) rfl
theorem w1_141 : Cond.fieldLink RX0 19 "CrystalClub$Club" "members" "[LCrystalClub$Member;" ∈ gW := gW_1 (List.mem_of_getElem? (i := 141) rfl) rfl
theorem w1_142 : Cond.fieldLink RX0 29 "CrystalClub$Club" "letters" "LCrystalClub$Table;" ∈ gW := gW_1 (List.mem_of_getElem? (i := 142) rfl) rfl
theorem w1_144 : Cond.fieldLink RX0 36 "CrystalClub$Club" "hearing" "LCrystalClub$Hearing;" ∈ gW := gW_1 (List.mem_of_getElem? (i := 144) rfl) rfl
theorem w1_145 : Cond.fieldLink RX0 44 "CrystalClub$Club" "stationCount" "I" ∈ gW := gW_1 (List.mem_of_getElem? (i := 145) rfl) rfl
theorem w1_147 : Cond.fieldLink RX0 51 "CrystalClub$Club" "memberCount" "I" ∈ gW := gW_1 (List.mem_of_getElem? (i := 147) rfl) rfl
theorem w1_149 : Cond.fieldLink RX0 40 "CrystalClub$Club" "hour" "I" ∈ gW := gW_1 (List.mem_of_getElem? (i := 149) rfl) rfl
theorem w1_151 : Cond.laysFinal RX0 "CrystalClub$Club" "stations" "[LCrystalClub$Station;" ∈ gW := gW_1 (List.mem_of_getElem? (i := 151) rfl) rfl
theorem w1_153 : Cond.laysFinal RX0 "CrystalClub$Club" "members" "[LCrystalClub$Member;" ∈ gW := gW_1 (List.mem_of_getElem? (i := 153) rfl) rfl
theorem w1_155 : Cond.laysFinal RX0 "CrystalClub$Club" "letters" "LCrystalClub$Table;" ∈ gW := gW_1 (List.mem_of_getElem? (i := 155) rfl) rfl
theorem w1_157 : Cond.laysFinal RX0 "CrystalClub$Club" "hearing" "LCrystalClub$Hearing;" ∈ gW := gW_1 (List.mem_of_getElem? (i := 157) rfl) rfl
theorem w1_159 : Cond.lays RX0 "CrystalClub$Club" "stationCount" "I" ∈ gW := gW_1 (List.mem_of_getElem? (i := 159) rfl) rfl
theorem w1_161 : Cond.lays RX0 "CrystalClub$Club" "memberCount" "I" ∈ gW := gW_1 (List.mem_of_getElem? (i := 161) rfl) rfl
theorem w1_163 : Cond.lays RX0 "CrystalClub$Club" "hour" "I" ∈ gW := gW_1 (List.mem_of_getElem? (i := 163) rfl) rfl
theorem w1_166 : Cond.classLink RX6 19 RX1 ∈ gW := gW_1 (List.mem_of_getElem? (i := 166) rfl) rfl
theorem w1_168 : Cond.fieldLink RX6 10 "CrystalClub" "now" "LCrystalClub$Club;" ∈ gW := gW_1 (List.mem_of_getElem? (i := 168) rfl) rfl
theorem w1_169 : Cond.fieldLink RX6 16 "CrystalClub" "trial" "LCrystalClub$Club;" ∈ gW := gW_1 (List.mem_of_getElem? (i := 169) rfl) rfl
theorem w1_170 : Cond.fieldLink RX6 22 "CrystalClub" "probe" "LCrystalClub$CrystalSet;" ∈ gW := gW_1 (List.mem_of_getElem? (i := 170) rfl) rfl
theorem w1_171 : Cond.laysFinal RX6 "CrystalClub" "now" "LCrystalClub$Club;" ∈ gW := gW_1 (List.mem_of_getElem? (i := 171) rfl) rfl
theorem w1_173 : Cond.laysFinal RX6 "CrystalClub" "trial" "LCrystalClub$Club;" ∈ gW := gW_1 (List.mem_of_getElem? (i := 173) rfl) rfl
theorem w1_175 : Cond.laysFinal RX6 "CrystalClub" "probe" "LCrystalClub$CrystalSet;" ∈ gW := gW_1 (List.mem_of_getElem? (i := 175) rfl) rfl
theorem w1_178 : Cond.methodLink RL 149 yX6_mean ∈ gW := gW_1 (List.mem_of_getElem? (i := 178) rfl) rfl
theorem w1_179 : Cond.instanceMethod yX6_mean ∈ gW := gW_1 (List.mem_of_getElem? (i := 179) rfl) rfl
theorem w1_180 : Cond.selects RX6 yX6_mean yX6_mean ∈ gW := gW_1 (List.mem_of_getElem? (i := 180) rfl) rfl
theorem w1_181 : Cond.code yX6_mean cX6_mean 2 (some .double) ∈ gW := gW_1 (List.mem_of_getElem? (i := 181) rfl) rfl
theorem w1_182 : Cond.methodLink RX6 195 yX0_allLines ∈ gW := gW_1 (List.mem_of_getElem? (i := 182) rfl) rfl
theorem w1_183 : Cond.instanceMethod yX0_allLines ∈ gW := gW_1 (List.mem_of_getElem? (i := 183) rfl) rfl
theorem w1_184 : Cond.selects RX0 yX0_allLines yX0_allLines ∈ gW := gW_1 (List.mem_of_getElem? (i := 184) rfl) rfl
theorem w1_185 : Cond.code yX0_allLines cX0_allLines 4 (some .int) ∈ gW := gW_1 (List.mem_of_getElem? (i := 185) rfl) rfl
theorem w1_186 : Cond.methodLink RX0 54 yX0_memberAt ∈ gW := gW_1 (List.mem_of_getElem? (i := 186) rfl) rfl
theorem w1_187 : Cond.instanceMethod yX0_memberAt ∈ gW := gW_1 (List.mem_of_getElem? (i := 187) rfl) rfl
theorem w1_188 : Cond.selects RX0 yX0_memberAt yX0_memberAt ∈ gW := gW_1 (List.mem_of_getElem? (i := 188) rfl) rfl
theorem w1_189 : Cond.code yX0_memberAt cX0_memberAt 3 (some (.object "CrystalClub$Member")) ∈ gW := gW_1 (List.mem_of_getElem? (i := 189) rfl) rfl
theorem w1_190 : Cond.methodLink RX6 198 yX0_allStrengths ∈ gW := gW_1 (List.mem_of_getElem? (i := 190) rfl) rfl
theorem w1_191 : Cond.instanceMethod yX0_allStrengths ∈ gW := gW_1 (List.mem_of_getElem? (i := 191) rfl) rfl
theorem w1_192 : Cond.selects RX0 yX0_allStrengths yX0_allStrengths ∈ gW := gW_1 (List.mem_of_getElem? (i := 192) rfl) rfl
theorem w1_193 : Cond.code yX0_allStrengths cX0_allStrengths 1 (some .int) ∈ gW := gW_1 (List.mem_of_getElem? (i := 193) rfl) rfl
theorem w1_194 : Cond.methodLink RX0 227 yX0_sumOfLogs ∈ gW := gW_1 (List.mem_of_getElem? (i := 194) rfl) rfl
theorem w1_196 : Cond.instanceMethod yX0_sumOfLogs ∈ gW := gW_1 (List.mem_of_getElem? (i := 196) rfl) rfl
theorem w1_197 : Cond.code yX0_sumOfLogs cX0_sumOfLogs 5 (some .int) ∈ gW := gW_1 (List.mem_of_getElem? (i := 197) rfl) rfl
theorem w1_198 : Cond.methodLink RX0 230 yX5_sum ∈ gW := gW_1 (List.mem_of_getElem? (i := 198) rfl) rfl
theorem w1_199 : Cond.instanceMethod yX5_sum ∈ gW := gW_1 (List.mem_of_getElem? (i := 199) rfl) rfl
theorem w1_200 : Cond.selects RX5 yX5_sum yX5_sum ∈ gW := gW_1 (List.mem_of_getElem? (i := 200) rfl) rfl
theorem w1_201 : Cond.code yX5_sum cX5_sum 4 (some .int) ∈ gW := gW_1 (List.mem_of_getElem? (i := 201) rfl) rfl
theorem w1_202 : Cond.methodLink RX5 26 yX5_at ∈ gW := gW_1 (List.mem_of_getElem? (i := 202) rfl) rfl
theorem w1_203 : Cond.instanceMethod yX5_at ∈ gW := gW_1 (List.mem_of_getElem? (i := 203) rfl) rfl
theorem w1_204 : Cond.selects RX5 yX5_at yX5_at ∈ gW := gW_1 (List.mem_of_getElem? (i := 204) rfl) rfl
theorem w1_205 : Cond.code yX5_at cX5_at 4 (some .int) ∈ gW := gW_1 (List.mem_of_getElem? (i := 205) rfl) rfl
theorem w1_206 : Cond.methodLink RL 154 yX6_digest ∈ gW := gW_1 (List.mem_of_getElem? (i := 206) rfl) rfl
theorem w1_207 : Cond.instanceMethod yX6_digest ∈ gW := gW_1 (List.mem_of_getElem? (i := 207) rfl) rfl
theorem w1_208 : Cond.selects RX6 yX6_digest yX6_digest ∈ gW := gW_1 (List.mem_of_getElem? (i := 208) rfl) rfl
theorem w1_209 : Cond.code yX6_digest cX6_digest 1 (some .long) ∈ gW := gW_1 (List.mem_of_getElem? (i := 209) rfl) rfl
theorem w1_210 : Cond.methodLink RX6 201 yX0_checksum ∈ gW := gW_1 (List.mem_of_getElem? (i := 210) rfl) rfl
theorem w1_211 : Cond.instanceMethod yX0_checksum ∈ gW := gW_1 (List.mem_of_getElem? (i := 211) rfl) rfl
theorem w1_212 : Cond.selects RX0 yX0_checksum yX0_checksum ∈ gW := gW_1 (List.mem_of_getElem? (i := 212) rfl) rfl
theorem w1_213 : Cond.code yX0_checksum cX0_checksum 5 (some .long) ∈ gW := gW_1 (List.mem_of_getElem? (i := 213) rfl) rfl
theorem w1_214 : Cond.constantLong RX0 233 (701) ∈ gW := gW_1 (List.mem_of_getElem? (i := 214) rfl) rfl
theorem w1_215 : Cond.constantLong RX0 235 (31) ∈ gW := gW_1 (List.mem_of_getElem? (i := 215) rfl) rfl
theorem w1_216 : Cond.methodLink RX0 237 yX0_tellCount ∈ gW := gW_1 (List.mem_of_getElem? (i := 216) rfl) rfl
theorem w1_217 : Cond.instanceMethod yX0_tellCount ∈ gW := gW_1 (List.mem_of_getElem? (i := 217) rfl) rfl
theorem w1_218 : Cond.selects RX0 yX0_tellCount yX0_tellCount ∈ gW := gW_1 (List.mem_of_getElem? (i := 218) rfl) rfl
theorem w1_219 : Cond.code yX0_tellCount cX0_tellCount 2 (some .int) ∈ gW := gW_1 (List.mem_of_getElem? (i := 219) rfl) rfl
theorem w1_220 : Cond.methodLink RX0 215 yX0_stationsOnAir ∈ gW := gW_1 (List.mem_of_getElem? (i := 220) rfl) rfl
theorem w1_222 : Cond.instanceMethod yX0_stationsOnAir ∈ gW := gW_1 (List.mem_of_getElem? (i := 222) rfl) rfl
theorem w1_223 : Cond.code yX0_stationsOnAir cX0_stationsOnAir 4 (some .int) ∈ gW := gW_1 (List.mem_of_getElem? (i := 223) rfl) rfl
theorem w1_224 : Cond.methodLink RX0 47 yX0_stationAt ∈ gW := gW_1 (List.mem_of_getElem? (i := 224) rfl) rfl
theorem w1_225 : Cond.instanceMethod yX0_stationAt ∈ gW := gW_1 (List.mem_of_getElem? (i := 225) rfl) rfl
theorem w1_226 : Cond.selects RX0 yX0_stationAt yX0_stationAt ∈ gW := gW_1 (List.mem_of_getElem? (i := 226) rfl) rfl
theorem w1_227 : Cond.code yX0_stationAt cX0_stationAt 3 (some (.object "CrystalClub$Station")) ∈ gW := gW_1 (List.mem_of_getElem? (i := 227) rfl) rfl
theorem w1_228 : Cond.methodLink RX0 71 yX4_isOnAir ∈ gW := gW_1 (List.mem_of_getElem? (i := 228) rfl) rfl
theorem w1_229 : Cond.instanceMethod yX4_isOnAir ∈ gW := gW_1 (List.mem_of_getElem? (i := 229) rfl) rfl
theorem w1_230 : Cond.selects RX4 yX4_isOnAir yX4_isOnAir ∈ gW := gW_1 (List.mem_of_getElem? (i := 230) rfl) rfl
theorem w1_231 : Cond.code yX4_isOnAir cX4_isOnAir 3 (some .boolean) ∈ gW := gW_1 (List.mem_of_getElem? (i := 231) rfl) rfl
theorem w1_232 : Cond.methodLink RX0 218 yX0_listeners ∈ gW := gW_1 (List.mem_of_getElem? (i := 232) rfl) rfl
theorem w1_234 : Cond.instanceMethod yX0_listeners ∈ gW := gW_1 (List.mem_of_getElem? (i := 234) rfl) rfl
theorem w1_235 : Cond.code yX0_listeners cX0_listeners 4 (some .int) ∈ gW := gW_1 (List.mem_of_getElem? (i := 235) rfl) rfl
theorem w1_236 : Cond.methodLink RX0 221 yX0_allLines ∈ gW := gW_1 (List.mem_of_getElem? (i := 236) rfl) rfl
theorem w1_237 : Cond.methodLink RX0 224 yX0_confirmedLines ∈ gW := gW_1 (List.mem_of_getElem? (i := 237) rfl) rfl
theorem w1_238 : Cond.instanceMethod yX0_confirmedLines ∈ gW := gW_1 (List.mem_of_getElem? (i := 238) rfl) rfl
theorem w1_239 : Cond.selects RX0 yX0_confirmedLines yX0_confirmedLines ∈ gW := gW_1 (List.mem_of_getElem? (i := 239) rfl) rfl
theorem w2_0 : Cond.code yX0_confirmedLines cX0_confirmedLines 1 (some .int) ∈ gW := gW_2 (List.mem_of_getElem? (i := 0) rfl) rfl
theorem w2_1 : Cond.methodLink RX0 240 yX0_tellStation ∈ gW := gW_2 (List.mem_of_getElem? (i := 1) rfl) rfl
theorem w2_2 : Cond.instanceMethod yX0_tellStation ∈ gW := gW_2 (List.mem_of_getElem? (i := 2) rfl) rfl
theorem w2_3 : Cond.selects RX0 yX0_tellStation yX0_tellStation ∈ gW := gW_2 (List.mem_of_getElem? (i := 3) rfl) rfl
theorem w2_4 : Cond.code yX0_tellStation cX0_tellStation 4 (some .int) ∈ gW := gW_2 (List.mem_of_getElem? (i := 4) rfl) rfl
theorem w2_5 : Cond.methodLink RX0 191 yX4_fading ∈ gW := gW_2 (List.mem_of_getElem? (i := 5) rfl) rfl
theorem w2_6 : Cond.instanceMethod yX4_fading ∈ gW := gW_2 (List.mem_of_getElem? (i := 6) rfl) rfl
theorem w2_7 : Cond.selects RX4 yX4_fading yX4_fading ∈ gW := gW_2 (List.mem_of_getElem? (i := 7) rfl) rfl
theorem w2_8 : Cond.code yX4_fading cX4_fading 3 (some .int) ∈ gW := gW_2 (List.mem_of_getElem? (i := 8) rfl) rfl
theorem w2_9 : Cond.methodLink RX0 194 yX0_membersWithCardOf ∈ gW := gW_2 (List.mem_of_getElem? (i := 9) rfl) rfl
theorem w2_11 : Cond.instanceMethod yX0_membersWithCardOf ∈ gW := gW_2 (List.mem_of_getElem? (i := 11) rfl) rfl
theorem w2_12 : Cond.code yX0_membersWithCardOf cX0_membersWithCardOf 5 (some .int) ∈ gW := gW_2 (List.mem_of_getElem? (i := 12) rfl) rfl
theorem w2_13 : Cond.methodLink RX0 163 yX3_cards ∈ gW := gW_2 (List.mem_of_getElem? (i := 13) rfl) rfl
theorem w2_14 : Cond.instanceMethod yX3_cards ∈ gW := gW_2 (List.mem_of_getElem? (i := 14) rfl) rfl
theorem w2_15 : Cond.selects RX3 yX3_cards yX3_cards ∈ gW := gW_2 (List.mem_of_getElem? (i := 15) rfl) rfl
theorem w2_16 : Cond.code yX3_cards cX3_cards 3 (some .int) ∈ gW := gW_2 (List.mem_of_getElem? (i := 16) rfl) rfl
theorem w2_17 : Cond.methodLink RX3 51 yX5_at ∈ gW := gW_2 (List.mem_of_getElem? (i := 17) rfl) rfl
theorem w2_18 : Cond.methodLink RX0 243 yX0_withMember ∈ gW := gW_2 (List.mem_of_getElem? (i := 18) rfl) rfl
theorem w2_20 : Cond.instanceMethod yX0_withMember ∈ gW := gW_2 (List.mem_of_getElem? (i := 20) rfl) rfl
theorem w2_21 : Cond.code yX0_withMember cX0_withMember 7 (some .long) ∈ gW := gW_2 (List.mem_of_getElem? (i := 21) rfl) rfl
theorem w2_22 : Cond.methodLink RX0 251 yX0_tellMember ∈ gW := gW_2 (List.mem_of_getElem? (i := 22) rfl) rfl
theorem w2_23 : Cond.instanceMethod yX0_tellMember ∈ gW := gW_2 (List.mem_of_getElem? (i := 23) rfl) rfl
theorem w2_24 : Cond.selects RX0 yX0_tellMember yX0_tellMember ∈ gW := gW_2 (List.mem_of_getElem? (i := 24) rfl) rfl
theorem w2_25 : Cond.code yX0_tellMember cX0_tellMember 4 (some .int) ∈ gW := gW_2 (List.mem_of_getElem? (i := 25) rfl) rfl
theorem w2_26 : Cond.methodLink RX0 212 yJ6_bitCount_0f7a4 ∈ gW := gW_2 (List.mem_of_getElem? (i := 26) rfl) rfl
theorem w2_27 : Cond.static yJ6_bitCount_0f7a4 ∈ gW := gW_2 (List.mem_of_getElem? (i := 27) rfl) rfl
theorem w2_28 : Cond.code yJ6_bitCount_0f7a4 cJ6_bitCount_0f7a4 1 (some .int) ∈ gW := gW_2 (List.mem_of_getElem? (i := 28) rfl) rfl
theorem w2_29 : Cond.constant RJ6 265 (1431655765) ∈ gW := gW_2 (List.mem_of_getElem? (i := 29) rfl) rfl
theorem w2_30 : Cond.constant RJ6 266 (858993459) ∈ gW := gW_2 (List.mem_of_getElem? (i := 30) rfl) rfl
theorem w2_31 : Cond.constant RJ6 267 (252645135) ∈ gW := gW_2 (List.mem_of_getElem? (i := 31) rfl) rfl
theorem w2_32 : Cond.methodLink RX0 176 yX0_scoreOf ∈ gW := gW_2 (List.mem_of_getElem? (i := 32) rfl) rfl
theorem w2_34 : Cond.instanceMethod yX0_scoreOf ∈ gW := gW_2 (List.mem_of_getElem? (i := 34) rfl) rfl
theorem w2_35 : Cond.code yX0_scoreOf cX0_scoreOf 6 (some .int) ∈ gW := gW_2 (List.mem_of_getElem? (i := 35) rfl) rfl
theorem w2_36 : Cond.methodLink RX0 247 yX0_withRows ∈ gW := gW_2 (List.mem_of_getElem? (i := 36) rfl) rfl
theorem w2_37 : Cond.static yX0_withRows ∈ gW := gW_2 (List.mem_of_getElem? (i := 37) rfl) rfl
theorem w2_38 : Cond.code yX0_withRows cX0_withRows 7 (some .long) ∈ gW := gW_2 (List.mem_of_getElem? (i := 38) rfl) rfl
theorem w2_39 : Cond.methodLink RX0 143 yX5_at ∈ gW := gW_2 (List.mem_of_getElem? (i := 39) rfl) rfl
theorem w2_40 : Cond.methodLink RL 81 yL_addStation ∈ gW := gW_2 (List.mem_of_getElem? (i := 40) rfl) rfl
theorem w2_41 : Cond.static yL_addStation ∈ gW := gW_2 (List.mem_of_getElem? (i := 41) rfl) rfl
theorem w2_43 : Cond.classLink RL 13 "java/lang/IllegalArgumentException" ∈ gW := gW_2 (List.mem_of_getElem? (i := 43) rfl) rfl
theorem w2_44 : Cond.classLink RL 15 "java/lang/IllegalStateException" ∈ gW := gW_2 (List.mem_of_getElem? (i := 44) rfl) rfl
theorem w2_45 : Cond.methodLink RL 7 yX6_addStation ∈ gW := gW_2 (List.mem_of_getElem? (i := 45) rfl) rfl
theorem w2_46 : Cond.instanceMethod yX6_addStation ∈ gW := gW_2 (List.mem_of_getElem? (i := 46) rfl) rfl
theorem w2_47 : Cond.selects RX6 yX6_addStation yX6_addStation ∈ gW := gW_2 (List.mem_of_getElem? (i := 47) rfl) rfl
theorem w2_48 : Cond.code yX6_addStation cX6_addStation 7 (some .int) ∈ gW := gW_2 (List.mem_of_getElem? (i := 48) rfl) rfl
theorem w2_49 : Cond.methodLink RX6 26 yX6_isWithin ∈ gW := gW_2 (List.mem_of_getElem? (i := 49) rfl) rfl
theorem w2_50 : Cond.static yX6_isWithin ∈ gW := gW_2 (List.mem_of_getElem? (i := 50) rfl) rfl
theorem w2_51 : Cond.code yX6_isWithin cX6_isWithin 3 (some .boolean) ∈ gW := gW_2 (List.mem_of_getElem? (i := 51) rfl) rfl
theorem w2_52 : Cond.classLink RX6 30 "java/lang/IllegalArgumentException" ∈ gW := gW_2 (List.mem_of_getElem? (i := 52) rfl) rfl
theorem w2_53 : Cond.instantiable "java/lang/IllegalArgumentException" 6 ∈ gW := gW_2 (List.mem_of_getElem? (i := 53) rfl) rfl
theorem w2_61 : Cond.selects "java/lang/IllegalArgumentException" ⟨"java/lang/Throwable", "fillInStackTrace", "(I)Ljava/lang/Throwable;"⟩ ⟨"java/lang/Throwable", "fillInStackTrace", "(I)Ljava/lang/Throwable;"⟩ ∈ gW := gW_2 (List.mem_of_getElem? (i := 61) rfl) rfl
theorem w2_62 : Cond.selects "java/lang/IllegalArgumentException" ⟨"java/lang/Throwable", "fillInStackTrace", "()Ljava/lang/Throwable;"⟩ ⟨"java/lang/Throwable", "fillInStackTrace", "()Ljava/lang/Throwable;"⟩ ∈ gW := gW_2 (List.mem_of_getElem? (i := 62) rfl) rfl
theorem w2_73 : Cond.fieldLink "java/lang/Throwable" 198 "java/lang/Throwable" "backtrace" "Ljava/lang/Object;" ∈ gW := gW_2 (List.mem_of_getElem? (i := 73) rfl) rfl
theorem w2_75 : Cond.instanceMethod ⟨"java/lang/Throwable", "<init>", "()V"⟩ ∈ gW := gW_2 (List.mem_of_getElem? (i := 75) rfl) rfl
theorem w2_76 : Cond.code ⟨"java/lang/Throwable", "<init>", "()V"⟩ prog_20_method_1_code 1 none ∈ gW := gW_2 (List.mem_of_getElem? (i := 76) rfl) rfl
theorem w2_77 : Cond.methodLink "java/lang/Throwable" 1 ⟨"java/lang/Object", "<init>", "()V"⟩ ∈ gW := gW_2 (List.mem_of_getElem? (i := 77) rfl) rfl
theorem w2_78 : Cond.fieldLink "java/lang/Throwable" 13 "java/lang/Throwable" "UNASSIGNED_STACK" "[Ljava/lang/StackTraceElement;" ∈ gW := gW_2 (List.mem_of_getElem? (i := 78) rfl) rfl
theorem w2_80 : Cond.fieldLink "java/lang/Throwable" 20 "java/lang/Throwable" "SUPPRESSED_SENTINEL" "Ljava/util/List;" ∈ gW := gW_2 (List.mem_of_getElem? (i := 80) rfl) rfl
theorem w2_82 : Cond.methodLink "java/lang/Throwable" 27 ⟨"java/lang/Throwable", "fillInStackTrace", "()Ljava/lang/Throwable;"⟩ ∈ gW := gW_2 (List.mem_of_getElem? (i := 82) rfl) rfl
theorem w2_83 : Cond.instanceMethod ⟨"java/lang/Throwable", "fillInStackTrace", "()Ljava/lang/Throwable;"⟩ ∈ gW := gW_2 (List.mem_of_getElem? (i := 83) rfl) rfl
theorem w2_85 : Cond.selects "java/lang/IllegalStateException" ⟨"java/lang/Throwable", "fillInStackTrace", "()Ljava/lang/Throwable;"⟩ ⟨"java/lang/Throwable", "fillInStackTrace", "()Ljava/lang/Throwable;"⟩ ∈ gW := gW_2 (List.mem_of_getElem? (i := 85) rfl) rfl
theorem w2_86 : Cond.selects "java/lang/IndexOutOfBoundsException" ⟨"java/lang/Throwable", "fillInStackTrace", "()Ljava/lang/Throwable;"⟩ ⟨"java/lang/Throwable", "fillInStackTrace", "()Ljava/lang/Throwable;"⟩ ∈ gW := gW_2 (List.mem_of_getElem? (i := 86) rfl) rfl
theorem w2_88 : Cond.methodLink "java/lang/Throwable" 202 ⟨"java/lang/Throwable", "fillInStackTrace", "(I)Ljava/lang/Throwable;"⟩ ∈ gW := gW_2 (List.mem_of_getElem? (i := 88) rfl) rfl
theorem w2_90 : Cond.instanceMethod ⟨"java/lang/Throwable", "fillInStackTrace", "(I)Ljava/lang/Throwable;"⟩ ∈ gW := gW_2 (List.mem_of_getElem? (i := 90) rfl) rfl
theorem w2_91 : Cond.instantiable "java/lang/Throwable" 6 ∈ gW := gW_2 (List.mem_of_getElem? (i := 91) rfl) rfl
theorem w2_92 : Cond.native ⟨"java/lang/Throwable", "fillInStackTrace", "(I)Ljava/lang/Throwable;"⟩ ∈ gW := gW_2 (List.mem_of_getElem? (i := 92) rfl) rfl
theorem w2_94 : Cond.methodLink RX6 34 ⟨"java/lang/IllegalArgumentException", "<init>", "(Ljava/lang/String;)V"⟩ ∈ gW := gW_2 (List.mem_of_getElem? (i := 94) rfl) rfl
theorem w2_95 : Cond.instanceMethod ⟨"java/lang/IllegalArgumentException", "<init>", "(Ljava/lang/String;)V"⟩ ∈ gW := gW_2 (List.mem_of_getElem? (i := 95) rfl) rfl
theorem w2_96 : Cond.code ⟨"java/lang/IllegalArgumentException", "<init>", "(Ljava/lang/String;)V"⟩ prog_12_method_2_code 2 none ∈ gW := gW_2 (List.mem_of_getElem? (i := 96) rfl) rfl
theorem w2_97 : Cond.methodLink "java/lang/IllegalArgumentException" 7 ⟨"java/lang/RuntimeException", "<init>", "(Ljava/lang/String;)V"⟩ ∈ gW := gW_2 (List.mem_of_getElem? (i := 97) rfl) rfl
theorem w2_98 : Cond.instanceMethod ⟨"java/lang/RuntimeException", "<init>", "(Ljava/lang/String;)V"⟩ ∈ gW := gW_2 (List.mem_of_getElem? (i := 98) rfl) rfl
theorem w2_99 : Cond.code ⟨"java/lang/RuntimeException", "<init>", "(Ljava/lang/String;)V"⟩ prog_17_method_2_code 2 none ∈ gW := gW_2 (List.mem_of_getElem? (i := 99) rfl) rfl
theorem w2_100 : Cond.methodLink "java/lang/RuntimeException" 7 ⟨"java/lang/Exception", "<init>", "(Ljava/lang/String;)V"⟩ ∈ gW := gW_2 (List.mem_of_getElem? (i := 100) rfl) rfl
theorem w2_101 : Cond.instanceMethod ⟨"java/lang/Exception", "<init>", "(Ljava/lang/String;)V"⟩ ∈ gW := gW_2 (List.mem_of_getElem? (i := 101) rfl) rfl
theorem w2_102 : Cond.code ⟨"java/lang/Exception", "<init>", "(Ljava/lang/String;)V"⟩ prog_11_method_2_code 2 none ∈ gW := gW_2 (List.mem_of_getElem? (i := 102) rfl) rfl
theorem w2_103 : Cond.methodLink "java/lang/Exception" 7 ⟨"java/lang/Throwable", "<init>", "(Ljava/lang/String;)V"⟩ ∈ gW := gW_2 (List.mem_of_getElem? (i := 103) rfl) rfl
theorem w2_104 : Cond.instanceMethod ⟨"java/lang/Throwable", "<init>", "(Ljava/lang/String;)V"⟩ ∈ gW := gW_2 (List.mem_of_getElem? (i := 104) rfl) rfl
theorem w2_105 : Cond.code ⟨"java/lang/Throwable", "<init>", "(Ljava/lang/String;)V"⟩ prog_20_method_2_code 2 none ∈ gW := gW_2 (List.mem_of_getElem? (i := 105) rfl) rfl
theorem w2_107 : Cond.fieldLink "java/lang/Throwable" 31 "java/lang/Throwable" "detailMessage" "Ljava/lang/String;" ∈ gW := gW_2 (List.mem_of_getElem? (i := 107) rfl) rfl
theorem w2_108 : Cond.fieldLink "java/lang/Throwable" 7 "java/lang/Throwable" "cause" "Ljava/lang/Throwable;" ∈ gW := gW_2 (List.mem_of_getElem? (i := 108) rfl) rfl
theorem w2_109 : Cond.fieldLink "java/lang/Throwable" 17 "java/lang/Throwable" "stackTrace" "[Ljava/lang/StackTraceElement;" ∈ gW := gW_2 (List.mem_of_getElem? (i := 109) rfl) rfl
theorem w2_110 : Cond.fieldLink "java/lang/Throwable" 24 "java/lang/Throwable" "suppressedExceptions" "Ljava/util/List;" ∈ gW := gW_2 (List.mem_of_getElem? (i := 110) rfl) rfl
theorem w2_119 : Cond.arrayClass .byte ∈ gW := gW_2 (List.mem_of_getElem? (i := 119) rfl) rfl
theorem w2_121 : Cond.classLink RX6 43 "java/lang/IllegalStateException" ∈ gW := gW_2 (List.mem_of_getElem? (i := 121) rfl) rfl
theorem w2_122 : Cond.instantiable "java/lang/IllegalStateException" 6 ∈ gW := gW_2 (List.mem_of_getElem? (i := 122) rfl) rfl
theorem w2_124 : Cond.selects "java/lang/IllegalStateException" ⟨"java/lang/Throwable", "fillInStackTrace", "(I)Ljava/lang/Throwable;"⟩ ⟨"java/lang/Throwable", "fillInStackTrace", "(I)Ljava/lang/Throwable;"⟩ ∈ gW := gW_2 (List.mem_of_getElem? (i := 124) rfl) rfl
theorem w2_131 : Cond.methodLink RX6 47 ⟨"java/lang/IllegalStateException", "<init>", "(Ljava/lang/String;)V"⟩ ∈ gW := gW_2 (List.mem_of_getElem? (i := 131) rfl) rfl
theorem w2_132 : Cond.instanceMethod ⟨"java/lang/IllegalStateException", "<init>", "(Ljava/lang/String;)V"⟩ ∈ gW := gW_2 (List.mem_of_getElem? (i := 132) rfl) rfl
theorem w2_133 : Cond.code ⟨"java/lang/IllegalStateException", "<init>", "(Ljava/lang/String;)V"⟩ prog_13_method_2_code 2 none ∈ gW := gW_2 (List.mem_of_getElem? (i := 133) rfl) rfl
theorem w2_134 : Cond.methodLink "java/lang/IllegalStateException" 7 ⟨"java/lang/RuntimeException", "<init>", "(Ljava/lang/String;)V"⟩ ∈ gW := gW_2 (List.mem_of_getElem? (i := 134) rfl) rfl
theorem w2_137 : Cond.classLink RX6 48 RX4 ∈ gW := gW_2 (List.mem_of_getElem? (i := 137) rfl) rfl
theorem w2_138 : Cond.instantiable RX4 6 ∈ gW := gW_2 (List.mem_of_getElem? (i := 138) rfl) rfl
theorem w2_139 : Cond.methodLink RX6 50 yX4_init ∈ gW := gW_2 (List.mem_of_getElem? (i := 139) rfl) rfl
theorem w2_140 : Cond.instanceMethod yX4_init ∈ gW := gW_2 (List.mem_of_getElem? (i := 140) rfl) rfl
theorem w2_141 : Cond.code yX4_init cX4_init 7 none ∈ gW := gW_2 (List.mem_of_getElem? (i := 141) rfl) rfl
theorem w2_142 : Cond.methodLink RX4 3 ⟨"java/lang/Object", "<init>", "()V"⟩ ∈ gW := gW_2 (List.mem_of_getElem? (i := 142) rfl) rfl
theorem w2_143 : Cond.fieldLink RX4 9 "CrystalClub$Station" "frequency" "I" ∈ gW := gW_2 (List.mem_of_getElem? (i := 143) rfl) rfl
theorem w2_146 : Cond.fieldLink RX4 15 "CrystalClub$Station" "power" "I" ∈ gW := gW_2 (List.mem_of_getElem? (i := 146) rfl) rfl
theorem w2_149 : Cond.fieldLink RX4 18 "CrystalClub$Station" "far" "I" ∈ gW := gW_2 (List.mem_of_getElem? (i := 149) rfl) rfl
theorem w2_152 : Cond.fieldLink RX4 21 "CrystalClub$Station" "from" "I" ∈ gW := gW_2 (List.mem_of_getElem? (i := 152) rfl) rfl
theorem w2_153 : Cond.fieldLink RX4 24 "CrystalClub$Station" "hours" "I" ∈ gW := gW_2 (List.mem_of_getElem? (i := 153) rfl) rfl
theorem w2_154 : Cond.fieldLink RX4 27 "CrystalClub$Station" "phase" "I" ∈ gW := gW_2 (List.mem_of_getElem? (i := 154) rfl) rfl
theorem w2_155 : Cond.laysFinal RX4 "CrystalClub$Station" "frequency" "I" ∈ gW := gW_2 (List.mem_of_getElem? (i := 155) rfl) rfl
theorem w2_157 : Cond.laysFinal RX4 "CrystalClub$Station" "power" "I" ∈ gW := gW_2 (List.mem_of_getElem? (i := 157) rfl) rfl
theorem w2_159 : Cond.laysFinal RX4 "CrystalClub$Station" "far" "I" ∈ gW := gW_2 (List.mem_of_getElem? (i := 159) rfl) rfl
theorem w2_161 : Cond.laysFinal RX4 "CrystalClub$Station" "from" "I" ∈ gW := gW_2 (List.mem_of_getElem? (i := 161) rfl) rfl
theorem w2_163 : Cond.laysFinal RX4 "CrystalClub$Station" "hours" "I" ∈ gW := gW_2 (List.mem_of_getElem? (i := 163) rfl) rfl
theorem w2_165 : Cond.laysFinal RX4 "CrystalClub$Station" "phase" "I" ∈ gW := gW_2 (List.mem_of_getElem? (i := 165) rfl) rfl
theorem w2_168 : Cond.methodLink RX6 53 yX0_found ∈ gW := gW_2 (List.mem_of_getElem? (i := 168) rfl) rfl
theorem w2_169 : Cond.instanceMethod yX0_found ∈ gW := gW_2 (List.mem_of_getElem? (i := 169) rfl) rfl
theorem w2_170 : Cond.selects RX0 yX0_found yX0_found ∈ gW := gW_2 (List.mem_of_getElem? (i := 170) rfl) rfl
theorem w2_171 : Cond.code yX0_found cX0_found 3 (some .int) ∈ gW := gW_2 (List.mem_of_getElem? (i := 171) rfl) rfl
theorem w2_172 : Cond.methodLink RL 91 yL_join ∈ gW := gW_2 (List.mem_of_getElem? (i := 172) rfl) rfl
theorem w2_173 : Cond.static yL_join ∈ gW := gW_2 (List.mem_of_getElem? (i := 173) rfl) rfl
theorem w2_175 : Cond.methodLink RL 17 yX6_join ∈ gW := gW_2 (List.mem_of_getElem? (i := 175) rfl) rfl
theorem w2_176 : Cond.instanceMethod yX6_join ∈ gW := gW_2 (List.mem_of_getElem? (i := 176) rfl) rfl
theorem w2_177 : Cond.selects RX6 yX6_join yX6_join ∈ gW := gW_2 (List.mem_of_getElem? (i := 177) rfl) rfl
theorem w2_178 : Cond.code yX6_join cX6_join 3 (some .int) ∈ gW := gW_2 (List.mem_of_getElem? (i := 178) rfl) rfl
theorem w2_181 : Cond.methodLink RX6 64 yX0_admit ∈ gW := gW_2 (List.mem_of_getElem? (i := 181) rfl) rfl
theorem w2_182 : Cond.instanceMethod yX0_admit ∈ gW := gW_2 (List.mem_of_getElem? (i := 182) rfl) rfl
theorem w2_183 : Cond.selects RX0 yX0_admit yX0_admit ∈ gW := gW_2 (List.mem_of_getElem? (i := 183) rfl) rfl
theorem w2_184 : Cond.code yX0_admit cX0_admit 5 (some .int) ∈ gW := gW_2 (List.mem_of_getElem? (i := 184) rfl) rfl
theorem w2_185 : Cond.methodLink RX0 65 yX3_begin ∈ gW := gW_2 (List.mem_of_getElem? (i := 185) rfl) rfl
theorem w2_186 : Cond.instanceMethod yX3_begin ∈ gW := gW_2 (List.mem_of_getElem? (i := 186) rfl) rfl
theorem w2_187 : Cond.selects RX3 yX3_begin yX3_begin ∈ gW := gW_2 (List.mem_of_getElem? (i := 187) rfl) rfl
theorem w2_188 : Cond.code yX3_begin cX3_begin 3 none ∈ gW := gW_2 (List.mem_of_getElem? (i := 188) rfl) rfl
theorem w2_189 : Cond.methodLink RX3 27 yX1_tune ∈ gW := gW_2 (List.mem_of_getElem? (i := 189) rfl) rfl
theorem w2_190 : Cond.instanceMethod yX1_tune ∈ gW := gW_2 (List.mem_of_getElem? (i := 190) rfl) rfl
theorem w2_191 : Cond.selects RX1 yX1_tune yX1_tune ∈ gW := gW_2 (List.mem_of_getElem? (i := 191) rfl) rfl
theorem w2_192 : Cond.code yX1_tune cX1_tune 3 none ∈ gW := gW_2 (List.mem_of_getElem? (i := 192) rfl) rfl
theorem w2_193 : Cond.constant RX1 16 (100000) ∈ gW := gW_2 (List.mem_of_getElem? (i := 193) rfl) rfl
theorem w2_195 : Cond.static yX6_quotient ∈ gW := gW_2 (List.mem_of_getElem? (i := 195) rfl) rfl
theorem w2_196 : Cond.code yX6_quotient cX6_quotient 2 (some .int) ∈ gW := gW_2 (List.mem_of_getElem? (i := 196) rfl) rfl
theorem w2_197 : Cond.methodLink RX1 26 Lib.Math.max.name ∈ gW := gW_2 (List.mem_of_getElem? (i := 197) rfl) rfl
theorem w2_198 : Cond.methodLink RL 95 yL_turn ∈ gW := gW_2 (List.mem_of_getElem? (i := 198) rfl) rfl
theorem w2_199 : Cond.static yL_turn ∈ gW := gW_2 (List.mem_of_getElem? (i := 199) rfl) rfl
theorem w2_201 : Cond.classLink RL 24 "java/lang/IndexOutOfBoundsException" ∈ gW := gW_2 (List.mem_of_getElem? (i := 201) rfl) rfl
theorem w2_202 : Cond.methodLink RL 21 yX6_turn ∈ gW := gW_2 (List.mem_of_getElem? (i := 202) rfl) rfl
theorem w2_203 : Cond.instanceMethod yX6_turn ∈ gW := gW_2 (List.mem_of_getElem? (i := 203) rfl) rfl
theorem w2_204 : Cond.selects RX6 yX6_turn yX6_turn ∈ gW := gW_2 (List.mem_of_getElem? (i := 204) rfl) rfl
theorem w2_205 : Cond.code yX6_turn cX6_turn 5 (some .int) ∈ gW := gW_2 (List.mem_of_getElem? (i := 205) rfl) rfl
theorem w2_206 : Cond.methodLink RX6 68 yX6_setOf ∈ gW := gW_2 (List.mem_of_getElem? (i := 206) rfl) rfl
theorem w2_208 : Cond.instanceMethod yX6_setOf ∈ gW := gW_2 (List.mem_of_getElem? (i := 208) rfl) rfl
theorem w2_209 : Cond.code yX6_setOf cX6_setOf 2 (some (.object "CrystalClub$CrystalSet")) ∈ gW := gW_2 (List.mem_of_getElem? (i := 209) rfl) rfl
theorem w2_210 : Cond.methodLink RX6 86 yX6_memberOf ∈ gW := gW_2 (List.mem_of_getElem? (i := 210) rfl) rfl
theorem w2_212 : Cond.instanceMethod yX6_memberOf ∈ gW := gW_2 (List.mem_of_getElem? (i := 212) rfl) rfl
theorem w2_213 : Cond.code yX6_memberOf cX6_memberOf 3 (some (.object "CrystalClub$Member")) ∈ gW := gW_2 (List.mem_of_getElem? (i := 213) rfl) rfl
theorem w2_214 : Cond.methodLink RX6 215 yX0_memberAt ∈ gW := gW_2 (List.mem_of_getElem? (i := 214) rfl) rfl
theorem w2_215 : Cond.classLink RX6 205 "java/lang/IndexOutOfBoundsException" ∈ gW := gW_2 (List.mem_of_getElem? (i := 215) rfl) rfl
theorem w2_216 : Cond.instantiable "java/lang/IndexOutOfBoundsException" 6 ∈ gW := gW_2 (List.mem_of_getElem? (i := 216) rfl) rfl
theorem w2_218 : Cond.selects "java/lang/IndexOutOfBoundsException" ⟨"java/lang/Throwable", "fillInStackTrace", "(I)Ljava/lang/Throwable;"⟩ ⟨"java/lang/Throwable", "fillInStackTrace", "(I)Ljava/lang/Throwable;"⟩ ∈ gW := gW_2 (List.mem_of_getElem? (i := 218) rfl) rfl
theorem w2_225 : Cond.methodLink RX6 209 ⟨"java/lang/IndexOutOfBoundsException", "<init>", "(Ljava/lang/String;)V"⟩ ∈ gW := gW_2 (List.mem_of_getElem? (i := 225) rfl) rfl
theorem w2_226 : Cond.instanceMethod ⟨"java/lang/IndexOutOfBoundsException", "<init>", "(Ljava/lang/String;)V"⟩ ∈ gW := gW_2 (List.mem_of_getElem? (i := 226) rfl) rfl
theorem w2_227 : Cond.code ⟨"java/lang/IndexOutOfBoundsException", "<init>", "(Ljava/lang/String;)V"⟩ prog_14_method_2_code 2 none ∈ gW := gW_2 (List.mem_of_getElem? (i := 227) rfl) rfl
theorem w2_228 : Cond.methodLink "java/lang/IndexOutOfBoundsException" 7 ⟨"java/lang/RuntimeException", "<init>", "(Ljava/lang/String;)V"⟩ ∈ gW := gW_2 (List.mem_of_getElem? (i := 228) rfl) rfl
theorem w2_232 : Cond.methodLink RX6 80 yX1_tune ∈ gW := gW_2 (List.mem_of_getElem? (i := 232) rfl) rfl
theorem w2_233 : Cond.methodLink RL 98 yL_wind ∈ gW := gW_2 (List.mem_of_getElem? (i := 233) rfl) rfl
theorem w2_234 : Cond.static yL_wind ∈ gW := gW_2 (List.mem_of_getElem? (i := 234) rfl) rfl
theorem w2_236 : Cond.methodLink RL 26 yX6_wind ∈ gW := gW_2 (List.mem_of_getElem? (i := 236) rfl) rfl
theorem w2_237 : Cond.instanceMethod yX6_wind ∈ gW := gW_2 (List.mem_of_getElem? (i := 237) rfl) rfl
theorem w2_238 : Cond.selects RX6 yX6_wind yX6_wind ∈ gW := gW_2 (List.mem_of_getElem? (i := 238) rfl) rfl
theorem w2_239 : Cond.code yX6_wind cX6_wind 5 (some .int) ∈ gW := gW_2 (List.mem_of_getElem? (i := 239) rfl) rfl
theorem w3_1 : Cond.methodLink RL 101 yL_listen ∈ gW := gW_3 (List.mem_of_getElem? (i := 1) rfl) rfl
theorem w3_2 : Cond.static yL_listen ∈ gW := gW_3 (List.mem_of_getElem? (i := 2) rfl) rfl
theorem w3_4 : Cond.methodLink RL 29 yX6_listen ∈ gW := gW_3 (List.mem_of_getElem? (i := 4) rfl) rfl
theorem w3_5 : Cond.instanceMethod yX6_listen ∈ gW := gW_3 (List.mem_of_getElem? (i := 5) rfl) rfl
theorem w3_6 : Cond.selects RX6 yX6_listen yX6_listen ∈ gW := gW_3 (List.mem_of_getElem? (i := 6) rfl) rfl
theorem w3_7 : Cond.code yX6_listen cX6_listen 5 (some .boolean) ∈ gW := gW_3 (List.mem_of_getElem? (i := 7) rfl) rfl
theorem w3_8 : Cond.methodLink RL 105 yL_renew ∈ gW := gW_3 (List.mem_of_getElem? (i := 8) rfl) rfl
theorem w3_9 : Cond.static yL_renew ∈ gW := gW_3 (List.mem_of_getElem? (i := 9) rfl) rfl
theorem w3_11 : Cond.methodLink RL 33 yX6_renew ∈ gW := gW_3 (List.mem_of_getElem? (i := 11) rfl) rfl
theorem w3_12 : Cond.instanceMethod yX6_renew ∈ gW := gW_3 (List.mem_of_getElem? (i := 12) rfl) rfl
theorem w3_13 : Cond.selects RX6 yX6_renew yX6_renew ∈ gW := gW_3 (List.mem_of_getElem? (i := 13) rfl) rfl
theorem w3_14 : Cond.code yX6_renew cX6_renew 4 (some .int) ∈ gW := gW_3 (List.mem_of_getElem? (i := 14) rfl) rfl
theorem w3_15 : Cond.methodLink RL 109 yL_station ∈ gW := gW_3 (List.mem_of_getElem? (i := 15) rfl) rfl
theorem w3_16 : Cond.static yL_station ∈ gW := gW_3 (List.mem_of_getElem? (i := 16) rfl) rfl
theorem w3_18 : Cond.methodLink RL 37 yX6_station ∈ gW := gW_3 (List.mem_of_getElem? (i := 18) rfl) rfl
theorem w3_19 : Cond.instanceMethod yX6_station ∈ gW := gW_3 (List.mem_of_getElem? (i := 19) rfl) rfl
theorem w3_20 : Cond.selects RX6 yX6_station yX6_station ∈ gW := gW_3 (List.mem_of_getElem? (i := 20) rfl) rfl
theorem w3_21 : Cond.code yX6_station cX6_station 3 (some .int) ∈ gW := gW_3 (List.mem_of_getElem? (i := 21) rfl) rfl
theorem w3_22 : Cond.methodLink RX6 99 yX6_stationOf ∈ gW := gW_3 (List.mem_of_getElem? (i := 22) rfl) rfl
theorem w3_24 : Cond.instanceMethod yX6_stationOf ∈ gW := gW_3 (List.mem_of_getElem? (i := 24) rfl) rfl
theorem w3_25 : Cond.code yX6_stationOf cX6_stationOf 3 (some (.object "CrystalClub$Station")) ∈ gW := gW_3 (List.mem_of_getElem? (i := 25) rfl) rfl
theorem w3_26 : Cond.methodLink RX6 210 yX0_stationAt ∈ gW := gW_3 (List.mem_of_getElem? (i := 26) rfl) rfl
theorem w3_28 : Cond.methodLink RX6 103 yX6_refuseUnlessWithin ∈ gW := gW_3 (List.mem_of_getElem? (i := 28) rfl) rfl
theorem w3_29 : Cond.static yX6_refuseUnlessWithin ∈ gW := gW_3 (List.mem_of_getElem? (i := 29) rfl) rfl
theorem w3_30 : Cond.code yX6_refuseUnlessWithin cX6_refuseUnlessWithin 2 none ∈ gW := gW_3 (List.mem_of_getElem? (i := 30) rfl) rfl
theorem w3_32 : Cond.methodLink RX6 106 yX0_tellStation ∈ gW := gW_3 (List.mem_of_getElem? (i := 32) rfl) rfl
theorem w3_33 : Cond.methodLink RL 112 yL_member ∈ gW := gW_3 (List.mem_of_getElem? (i := 33) rfl) rfl
theorem w3_34 : Cond.static yL_member ∈ gW := gW_3 (List.mem_of_getElem? (i := 34) rfl) rfl
theorem w3_36 : Cond.methodLink RL 40 yX6_member ∈ gW := gW_3 (List.mem_of_getElem? (i := 36) rfl) rfl
theorem w3_37 : Cond.instanceMethod yX6_member ∈ gW := gW_3 (List.mem_of_getElem? (i := 37) rfl) rfl
theorem w3_38 : Cond.selects RX6 yX6_member yX6_member ∈ gW := gW_3 (List.mem_of_getElem? (i := 38) rfl) rfl
theorem w3_39 : Cond.code yX6_member cX6_member 3 (some .int) ∈ gW := gW_3 (List.mem_of_getElem? (i := 39) rfl) rfl
theorem w3_40 : Cond.methodLink RX6 109 yX0_tellMember ∈ gW := gW_3 (List.mem_of_getElem? (i := 40) rfl) rfl
theorem w3_41 : Cond.methodLink RL 115 yL_strength ∈ gW := gW_3 (List.mem_of_getElem? (i := 41) rfl) rfl
theorem w3_42 : Cond.static yL_strength ∈ gW := gW_3 (List.mem_of_getElem? (i := 42) rfl) rfl
theorem w3_44 : Cond.methodLink RL 43 yX6_strength ∈ gW := gW_3 (List.mem_of_getElem? (i := 44) rfl) rfl
theorem w3_45 : Cond.instanceMethod yX6_strength ∈ gW := gW_3 (List.mem_of_getElem? (i := 45) rfl) rfl
theorem w3_46 : Cond.selects RX6 yX6_strength yX6_strength ∈ gW := gW_3 (List.mem_of_getElem? (i := 46) rfl) rfl
theorem w3_47 : Cond.code yX6_strength cX6_strength 5 (some .int) ∈ gW := gW_3 (List.mem_of_getElem? (i := 47) rfl) rfl
theorem w3_48 : Cond.methodLink RX6 115 yX4_isOnAir ∈ gW := gW_3 (List.mem_of_getElem? (i := 48) rfl) rfl
theorem w3_49 : Cond.methodLink RX6 119 yX1_strengthOf ∈ gW := gW_3 (List.mem_of_getElem? (i := 49) rfl) rfl
theorem w3_50 : Cond.instanceMethod yX1_strengthOf ∈ gW := gW_3 (List.mem_of_getElem? (i := 50) rfl) rfl
theorem w3_51 : Cond.selects RX1 yX1_strengthOf yX1_strengthOf ∈ gW := gW_3 (List.mem_of_getElem? (i := 51) rfl) rfl
theorem w3_52 : Cond.code yX1_strengthOf cX1_strengthOf 5 (some .int) ∈ gW := gW_3 (List.mem_of_getElem? (i := 52) rfl) rfl
theorem w3_54 : Cond.static yX6_distance ∈ gW := gW_3 (List.mem_of_getElem? (i := 54) rfl) rfl
theorem w3_55 : Cond.code yX6_distance cX6_distance 2 (some .int) ∈ gW := gW_3 (List.mem_of_getElem? (i := 55) rfl) rfl
theorem w3_56 : Cond.methodLink RX1 51 yX4_fading ∈ gW := gW_3 (List.mem_of_getElem? (i := 56) rfl) rfl
theorem w3_57 : Cond.methodLink RL 118 yL_hears ∈ gW := gW_3 (List.mem_of_getElem? (i := 57) rfl) rfl
theorem w3_58 : Cond.static yL_hears ∈ gW := gW_3 (List.mem_of_getElem? (i := 58) rfl) rfl
theorem w3_60 : Cond.methodLink RL 46 yX6_hears ∈ gW := gW_3 (List.mem_of_getElem? (i := 60) rfl) rfl
theorem w3_61 : Cond.instanceMethod yX6_hears ∈ gW := gW_3 (List.mem_of_getElem? (i := 61) rfl) rfl
theorem w3_62 : Cond.selects RX6 yX6_hears yX6_hears ∈ gW := gW_3 (List.mem_of_getElem? (i := 62) rfl) rfl
theorem w3_63 : Cond.code yX6_hears cX6_hears 2 (some .int) ∈ gW := gW_3 (List.mem_of_getElem? (i := 63) rfl) rfl
theorem w3_64 : Cond.methodLink RX6 123 yX0_hearingOf ∈ gW := gW_3 (List.mem_of_getElem? (i := 64) rfl) rfl
theorem w3_65 : Cond.instanceMethod yX0_hearingOf ∈ gW := gW_3 (List.mem_of_getElem? (i := 65) rfl) rfl
theorem w3_66 : Cond.selects RX0 yX0_hearingOf yX0_hearingOf ∈ gW := gW_3 (List.mem_of_getElem? (i := 66) rfl) rfl
theorem w3_67 : Cond.code yX0_hearingOf cX0_hearingOf 5 (some (.object "CrystalClub$Hearing")) ∈ gW := gW_3 (List.mem_of_getElem? (i := 67) rfl) rfl
theorem w3_68 : Cond.methodLink RX0 68 yX2_clear ∈ gW := gW_3 (List.mem_of_getElem? (i := 68) rfl) rfl
theorem w3_69 : Cond.instanceMethod yX2_clear ∈ gW := gW_3 (List.mem_of_getElem? (i := 69) rfl) rfl
theorem w3_70 : Cond.selects RX2 yX2_clear yX2_clear ∈ gW := gW_3 (List.mem_of_getElem? (i := 70) rfl) rfl
theorem w3_71 : Cond.code yX2_clear cX2_clear 1 none ∈ gW := gW_3 (List.mem_of_getElem? (i := 71) rfl) rfl
theorem w3_72 : Cond.methodLink RX0 75 yX1_strengthOf ∈ gW := gW_3 (List.mem_of_getElem? (i := 72) rfl) rfl
theorem w3_73 : Cond.methodLink RX0 81 yX2_offer ∈ gW := gW_3 (List.mem_of_getElem? (i := 73) rfl) rfl
theorem w3_74 : Cond.instanceMethod yX2_offer ∈ gW := gW_3 (List.mem_of_getElem? (i := 74) rfl) rfl
theorem w3_75 : Cond.selects RX2 yX2_offer yX2_offer ∈ gW := gW_3 (List.mem_of_getElem? (i := 75) rfl) rfl
theorem w3_76 : Cond.code yX2_offer cX2_offer 3 none ∈ gW := gW_3 (List.mem_of_getElem? (i := 76) rfl) rfl
theorem w3_77 : Cond.methodLink RX6 127 yX2_verdict ∈ gW := gW_3 (List.mem_of_getElem? (i := 77) rfl) rfl
theorem w3_78 : Cond.instanceMethod yX2_verdict ∈ gW := gW_3 (List.mem_of_getElem? (i := 78) rfl) rfl
theorem w3_79 : Cond.selects RX2 yX2_verdict yX2_verdict ∈ gW := gW_3 (List.mem_of_getElem? (i := 79) rfl) rfl
theorem w3_80 : Cond.code yX2_verdict cX2_verdict 1 (some .int) ∈ gW := gW_3 (List.mem_of_getElem? (i := 80) rfl) rfl
theorem w3_81 : Cond.methodLink RL 121 yL_log ∈ gW := gW_3 (List.mem_of_getElem? (i := 81) rfl) rfl
theorem w3_82 : Cond.static yL_log ∈ gW := gW_3 (List.mem_of_getElem? (i := 82) rfl) rfl
theorem w3_84 : Cond.methodLink RL 49 yX6_log ∈ gW := gW_3 (List.mem_of_getElem? (i := 84) rfl) rfl
theorem w3_85 : Cond.instanceMethod yX6_log ∈ gW := gW_3 (List.mem_of_getElem? (i := 85) rfl) rfl
theorem w3_86 : Cond.selects RX6 yX6_log yX6_log ∈ gW := gW_3 (List.mem_of_getElem? (i := 86) rfl) rfl
theorem w3_87 : Cond.code yX6_log cX6_log 5 (some .int) ∈ gW := gW_3 (List.mem_of_getElem? (i := 87) rfl) rfl
theorem w3_88 : Cond.methodLink RX6 133 yX6_logOf ∈ gW := gW_3 (List.mem_of_getElem? (i := 88) rfl) rfl
theorem w3_90 : Cond.instanceMethod yX6_logOf ∈ gW := gW_3 (List.mem_of_getElem? (i := 90) rfl) rfl
theorem w3_91 : Cond.code yX6_logOf cX6_logOf 4 (some (.object "CrystalClub$Table")) ∈ gW := gW_3 (List.mem_of_getElem? (i := 91) rfl) rfl
theorem w3_92 : Cond.methodLink RX6 137 yX5_at ∈ gW := gW_3 (List.mem_of_getElem? (i := 92) rfl) rfl
theorem w3_93 : Cond.methodLink RL 125 yL_write ∈ gW := gW_3 (List.mem_of_getElem? (i := 93) rfl) rfl
theorem w3_94 : Cond.static yL_write ∈ gW := gW_3 (List.mem_of_getElem? (i := 94) rfl) rfl
theorem w3_96 : Cond.methodLink RL 53 yX6_write ∈ gW := gW_3 (List.mem_of_getElem? (i := 96) rfl) rfl
theorem w3_97 : Cond.instanceMethod yX6_write ∈ gW := gW_3 (List.mem_of_getElem? (i := 97) rfl) rfl
theorem w3_98 : Cond.selects RX6 yX6_write yX6_write ∈ gW := gW_3 (List.mem_of_getElem? (i := 98) rfl) rfl
theorem w3_99 : Cond.code yX6_write cX6_write 4 (some .int) ∈ gW := gW_3 (List.mem_of_getElem? (i := 99) rfl) rfl
theorem w3_101 : Cond.methodLink RX6 144 yX0_hasLetterOf ∈ gW := gW_3 (List.mem_of_getElem? (i := 101) rfl) rfl
theorem w3_102 : Cond.instanceMethod yX0_hasLetterOf ∈ gW := gW_3 (List.mem_of_getElem? (i := 102) rfl) rfl
theorem w3_103 : Cond.selects RX0 yX0_hasLetterOf yX0_hasLetterOf ∈ gW := gW_3 (List.mem_of_getElem? (i := 103) rfl) rfl
theorem w3_104 : Cond.code yX0_hasLetterOf cX0_hasLetterOf 4 (some .boolean) ∈ gW := gW_3 (List.mem_of_getElem? (i := 104) rfl) rfl
theorem w3_106 : Cond.methodLink RX6 154 yX5_isFull ∈ gW := gW_3 (List.mem_of_getElem? (i := 106) rfl) rfl
theorem w3_107 : Cond.instanceMethod yX5_isFull ∈ gW := gW_3 (List.mem_of_getElem? (i := 107) rfl) rfl
theorem w3_108 : Cond.selects RX5 yX5_isFull yX5_isFull ∈ gW := gW_3 (List.mem_of_getElem? (i := 108) rfl) rfl
theorem w3_109 : Cond.code yX5_isFull cX5_isFull 1 (some .boolean) ∈ gW := gW_3 (List.mem_of_getElem? (i := 109) rfl) rfl
theorem w3_111 : Cond.methodLink RX6 160 yX0_send ∈ gW := gW_3 (List.mem_of_getElem? (i := 111) rfl) rfl
theorem w3_112 : Cond.instanceMethod yX0_send ∈ gW := gW_3 (List.mem_of_getElem? (i := 112) rfl) rfl
theorem w3_113 : Cond.selects RX0 yX0_send yX0_send ∈ gW := gW_3 (List.mem_of_getElem? (i := 113) rfl) rfl
theorem w3_114 : Cond.code yX0_send cX0_send 7 (some .int) ∈ gW := gW_3 (List.mem_of_getElem? (i := 114) rfl) rfl
theorem w3_115 : Cond.methodLink RX0 157 yX4_daysOfMail ∈ gW := gW_3 (List.mem_of_getElem? (i := 115) rfl) rfl
theorem w3_116 : Cond.instanceMethod yX4_daysOfMail ∈ gW := gW_3 (List.mem_of_getElem? (i := 116) rfl) rfl
theorem w3_117 : Cond.selects RX4 yX4_daysOfMail yX4_daysOfMail ∈ gW := gW_3 (List.mem_of_getElem? (i := 117) rfl) rfl
theorem w3_118 : Cond.code yX4_daysOfMail cX4_daysOfMail 1 (some .int) ∈ gW := gW_3 (List.mem_of_getElem? (i := 118) rfl) rfl
theorem w3_119 : Cond.methodLink RX0 160 yX5_put ∈ gW := gW_3 (List.mem_of_getElem? (i := 119) rfl) rfl
theorem w3_120 : Cond.instanceMethod yX5_put ∈ gW := gW_3 (List.mem_of_getElem? (i := 120) rfl) rfl
theorem w3_121 : Cond.selects RX5 yX5_put yX5_put ∈ gW := gW_3 (List.mem_of_getElem? (i := 121) rfl) rfl
theorem w3_122 : Cond.code yX5_put cX5_put 5 none ∈ gW := gW_3 (List.mem_of_getElem? (i := 122) rfl) rfl
theorem w3_123 : Cond.methodLink RL 128 yL_pass ∈ gW := gW_3 (List.mem_of_getElem? (i := 123) rfl) rfl
theorem w3_124 : Cond.static yL_pass ∈ gW := gW_3 (List.mem_of_getElem? (i := 124) rfl) rfl
theorem w3_126 : Cond.methodLink RL 56 yX6_pass ∈ gW := gW_3 (List.mem_of_getElem? (i := 126) rfl) rfl
theorem w3_127 : Cond.instanceMethod yX6_pass ∈ gW := gW_3 (List.mem_of_getElem? (i := 127) rfl) rfl
theorem w3_128 : Cond.selects RX6 yX6_pass yX6_pass ∈ gW := gW_3 (List.mem_of_getElem? (i := 128) rfl) rfl
theorem w3_129 : Cond.code yX6_pass cX6_pass 2 (some .int) ∈ gW := gW_3 (List.mem_of_getElem? (i := 129) rfl) rfl
theorem w3_131 : Cond.methodLink RX6 165 yX0_passHours ∈ gW := gW_3 (List.mem_of_getElem? (i := 131) rfl) rfl
theorem w3_132 : Cond.instanceMethod yX0_passHours ∈ gW := gW_3 (List.mem_of_getElem? (i := 132) rfl) rfl
theorem w3_133 : Cond.selects RX0 yX0_passHours yX0_passHours ∈ gW := gW_3 (List.mem_of_getElem? (i := 133) rfl) rfl
theorem w3_134 : Cond.code yX0_passHours cX0_passHours 4 (some .int) ∈ gW := gW_3 (List.mem_of_getElem? (i := 134) rfl) rfl
theorem w3_135 : Cond.methodLink RX0 101 yX0_writeLines ∈ gW := gW_3 (List.mem_of_getElem? (i := 135) rfl) rfl
theorem w3_137 : Cond.instanceMethod yX0_writeLines ∈ gW := gW_3 (List.mem_of_getElem? (i := 137) rfl) rfl
theorem w3_138 : Cond.code yX0_writeLines cX0_writeLines 4 (some .int) ∈ gW := gW_3 (List.mem_of_getElem? (i := 138) rfl) rfl
theorem w3_139 : Cond.methodLink RX0 117 yX5_isFull ∈ gW := gW_3 (List.mem_of_getElem? (i := 139) rfl) rfl
theorem w3_140 : Cond.methodLink RX0 121 yX0_writeLine ∈ gW := gW_3 (List.mem_of_getElem? (i := 140) rfl) rfl
theorem w3_142 : Cond.instanceMethod yX0_writeLine ∈ gW := gW_3 (List.mem_of_getElem? (i := 142) rfl) rfl
theorem w3_143 : Cond.code yX0_writeLine cX0_writeLine 4 (some .boolean) ∈ gW := gW_3 (List.mem_of_getElem? (i := 143) rfl) rfl
theorem w3_144 : Cond.methodLink RX0 90 yX0_hearingOf ∈ gW := gW_3 (List.mem_of_getElem? (i := 144) rfl) rfl
theorem w3_145 : Cond.methodLink RX0 94 yX2_verdict ∈ gW := gW_3 (List.mem_of_getElem? (i := 145) rfl) rfl
theorem w3_146 : Cond.methodLink RX0 129 yX3_hasLineOf ∈ gW := gW_3 (List.mem_of_getElem? (i := 146) rfl) rfl
theorem w3_147 : Cond.instanceMethod yX3_hasLineOf ∈ gW := gW_3 (List.mem_of_getElem? (i := 147) rfl) rfl
theorem w3_148 : Cond.selects RX3 yX3_hasLineOf yX3_hasLineOf ∈ gW := gW_3 (List.mem_of_getElem? (i := 148) rfl) rfl
theorem w3_149 : Cond.code yX3_hasLineOf cX3_hasLineOf 4 (some .boolean) ∈ gW := gW_3 (List.mem_of_getElem? (i := 149) rfl) rfl
theorem w3_150 : Cond.methodLink RX0 133 yX3_addLine ∈ gW := gW_3 (List.mem_of_getElem? (i := 150) rfl) rfl
theorem w3_151 : Cond.instanceMethod yX3_addLine ∈ gW := gW_3 (List.mem_of_getElem? (i := 151) rfl) rfl
theorem w3_152 : Cond.selects RX3 yX3_addLine yX3_addLine ∈ gW := gW_3 (List.mem_of_getElem? (i := 152) rfl) rfl
theorem w3_153 : Cond.code yX3_addLine cX3_addLine 5 none ∈ gW := gW_3 (List.mem_of_getElem? (i := 153) rfl) rfl
theorem w3_154 : Cond.methodLink RX3 55 yX5_put ∈ gW := gW_3 (List.mem_of_getElem? (i := 154) rfl) rfl
theorem w3_155 : Cond.methodLink RX0 104 yX0_wearCrystals ∈ gW := gW_3 (List.mem_of_getElem? (i := 155) rfl) rfl
theorem w3_157 : Cond.instanceMethod yX0_wearCrystals ∈ gW := gW_3 (List.mem_of_getElem? (i := 157) rfl) rfl
theorem w3_158 : Cond.code yX0_wearCrystals cX0_wearCrystals 3 none ∈ gW := gW_3 (List.mem_of_getElem? (i := 158) rfl) rfl
theorem w3_159 : Cond.methodLink RX0 137 yX3_wearCrystal ∈ gW := gW_3 (List.mem_of_getElem? (i := 159) rfl) rfl
theorem w3_160 : Cond.instanceMethod yX3_wearCrystal ∈ gW := gW_3 (List.mem_of_getElem? (i := 160) rfl) rfl
theorem w3_161 : Cond.selects RX3 yX3_wearCrystal yX3_wearCrystal ∈ gW := gW_3 (List.mem_of_getElem? (i := 161) rfl) rfl
theorem w3_162 : Cond.code yX3_wearCrystal cX3_wearCrystal 1 none ∈ gW := gW_3 (List.mem_of_getElem? (i := 162) rfl) rfl
theorem w3_163 : Cond.methodLink RX0 107 yX0_answerLetters ∈ gW := gW_3 (List.mem_of_getElem? (i := 163) rfl) rfl
theorem w3_165 : Cond.instanceMethod yX0_answerLetters ∈ gW := gW_3 (List.mem_of_getElem? (i := 165) rfl) rfl
theorem w3_166 : Cond.code yX0_answerLetters cX0_answerLetters 3 none ∈ gW := gW_3 (List.mem_of_getElem? (i := 166) rfl) rfl
theorem w3_167 : Cond.methodLink RX0 147 yX5_copyRow ∈ gW := gW_3 (List.mem_of_getElem? (i := 167) rfl) rfl
theorem w3_168 : Cond.instanceMethod yX5_copyRow ∈ gW := gW_3 (List.mem_of_getElem? (i := 168) rfl) rfl
theorem w3_169 : Cond.selects RX5 yX5_copyRow yX5_copyRow ∈ gW := gW_3 (List.mem_of_getElem? (i := 169) rfl) rfl
theorem w3_170 : Cond.code yX5_copyRow cX5_copyRow 4 none ∈ gW := gW_3 (List.mem_of_getElem? (i := 170) rfl) rfl
theorem w3_171 : Cond.methodLink RX5 29 yX5_put ∈ gW := gW_3 (List.mem_of_getElem? (i := 171) rfl) rfl
theorem w3_172 : Cond.methodLink RX0 150 yX0_answer ∈ gW := gW_3 (List.mem_of_getElem? (i := 172) rfl) rfl
theorem w3_174 : Cond.instanceMethod yX0_answer ∈ gW := gW_3 (List.mem_of_getElem? (i := 174) rfl) rfl
theorem w3_175 : Cond.code yX0_answer cX0_answer 4 none ∈ gW := gW_3 (List.mem_of_getElem? (i := 175) rfl) rfl
theorem w3_176 : Cond.methodLink RX0 153 yX3_takeAnswer ∈ gW := gW_3 (List.mem_of_getElem? (i := 176) rfl) rfl
theorem w3_177 : Cond.instanceMethod yX3_takeAnswer ∈ gW := gW_3 (List.mem_of_getElem? (i := 177) rfl) rfl
theorem w3_178 : Cond.selects RX3 yX3_takeAnswer yX3_takeAnswer ∈ gW := gW_3 (List.mem_of_getElem? (i := 178) rfl) rfl
theorem w3_179 : Cond.code yX3_takeAnswer cX3_takeAnswer 2 none ∈ gW := gW_3 (List.mem_of_getElem? (i := 179) rfl) rfl
theorem w3_180 : Cond.methodLink RL 131 yL_count ∈ gW := gW_3 (List.mem_of_getElem? (i := 180) rfl) rfl
theorem w3_181 : Cond.static yL_count ∈ gW := gW_3 (List.mem_of_getElem? (i := 181) rfl) rfl
theorem w3_183 : Cond.methodLink RL 59 yX6_count ∈ gW := gW_3 (List.mem_of_getElem? (i := 183) rfl) rfl
theorem w3_184 : Cond.instanceMethod yX6_count ∈ gW := gW_3 (List.mem_of_getElem? (i := 184) rfl) rfl
theorem w3_185 : Cond.selects RX6 yX6_count yX6_count ∈ gW := gW_3 (List.mem_of_getElem? (i := 185) rfl) rfl
theorem w3_186 : Cond.code yX6_count cX6_count 2 (some .int) ∈ gW := gW_3 (List.mem_of_getElem? (i := 186) rfl) rfl
theorem w3_187 : Cond.methodLink RX6 169 yX0_tellCount ∈ gW := gW_3 (List.mem_of_getElem? (i := 187) rfl) rfl
theorem w3_188 : Cond.methodLink RL 134 yL_rank ∈ gW := gW_3 (List.mem_of_getElem? (i := 188) rfl) rfl
theorem w3_189 : Cond.static yL_rank ∈ gW := gW_3 (List.mem_of_getElem? (i := 189) rfl) rfl
theorem w3_191 : Cond.methodLink RL 62 yX6_rank ∈ gW := gW_3 (List.mem_of_getElem? (i := 191) rfl) rfl
theorem w3_192 : Cond.instanceMethod yX6_rank ∈ gW := gW_3 (List.mem_of_getElem? (i := 192) rfl) rfl
theorem w3_193 : Cond.selects RX6 yX6_rank yX6_rank ∈ gW := gW_3 (List.mem_of_getElem? (i := 193) rfl) rfl
theorem w3_194 : Cond.code yX6_rank cX6_rank 2 (some .int) ∈ gW := gW_3 (List.mem_of_getElem? (i := 194) rfl) rfl
theorem w3_195 : Cond.methodLink RX6 172 yX0_memberAtPlace ∈ gW := gW_3 (List.mem_of_getElem? (i := 195) rfl) rfl
theorem w3_196 : Cond.instanceMethod yX0_memberAtPlace ∈ gW := gW_3 (List.mem_of_getElem? (i := 196) rfl) rfl
theorem w3_197 : Cond.selects RX0 yX0_memberAtPlace yX0_memberAtPlace ∈ gW := gW_3 (List.mem_of_getElem? (i := 197) rfl) rfl
theorem w3_198 : Cond.code yX0_memberAtPlace cX0_memberAtPlace 3 (some .int) ∈ gW := gW_3 (List.mem_of_getElem? (i := 198) rfl) rfl
theorem w3_199 : Cond.methodLink RX0 169 yX0_leadersOf ∈ gW := gW_3 (List.mem_of_getElem? (i := 199) rfl) rfl
theorem w3_201 : Cond.instanceMethod yX0_leadersOf ∈ gW := gW_3 (List.mem_of_getElem? (i := 201) rfl) rfl
theorem w3_202 : Cond.code yX0_leadersOf cX0_leadersOf 4 (some .int) ∈ gW := gW_3 (List.mem_of_getElem? (i := 202) rfl) rfl
theorem w3_203 : Cond.methodLink RX0 173 yX0_leads ∈ gW := gW_3 (List.mem_of_getElem? (i := 203) rfl) rfl
theorem w3_205 : Cond.instanceMethod yX0_leads ∈ gW := gW_3 (List.mem_of_getElem? (i := 205) rfl) rfl
theorem w3_206 : Cond.code yX0_leads cX0_leads 7 (some .boolean) ∈ gW := gW_3 (List.mem_of_getElem? (i := 206) rfl) rfl
theorem w3_207 : Cond.methodLink RX0 180 yJ6_compare_7cf53 ∈ gW := gW_3 (List.mem_of_getElem? (i := 207) rfl) rfl
theorem w3_208 : Cond.static yJ6_compare_7cf53 ∈ gW := gW_3 (List.mem_of_getElem? (i := 208) rfl) rfl
theorem w3_209 : Cond.code yJ6_compare_7cf53 cJ6_compare_7cf53 2 (some .int) ∈ gW := gW_3 (List.mem_of_getElem? (i := 209) rfl) rfl
theorem w3_210 : Cond.methodLink RL 137 yL_dial ∈ gW := gW_3 (List.mem_of_getElem? (i := 210) rfl) rfl
theorem w3_211 : Cond.static yL_dial ∈ gW := gW_3 (List.mem_of_getElem? (i := 211) rfl) rfl
theorem w3_213 : Cond.methodLink RL 65 yX6_dial ∈ gW := gW_3 (List.mem_of_getElem? (i := 213) rfl) rfl
theorem w3_214 : Cond.instanceMethod yX6_dial ∈ gW := gW_3 (List.mem_of_getElem? (i := 214) rfl) rfl
theorem w3_215 : Cond.selects RX6 yX6_dial yX6_dial ∈ gW := gW_3 (List.mem_of_getElem? (i := 215) rfl) rfl
theorem w3_216 : Cond.code yX6_dial cX6_dial 4 (some .int) ∈ gW := gW_3 (List.mem_of_getElem? (i := 216) rfl) rfl
theorem w3_217 : Cond.methodLink RX6 175 yX1_copyFrom ∈ gW := gW_3 (List.mem_of_getElem? (i := 217) rfl) rfl
theorem w3_218 : Cond.instanceMethod yX1_copyFrom ∈ gW := gW_3 (List.mem_of_getElem? (i := 218) rfl) rfl
theorem w3_219 : Cond.selects RX1 yX1_copyFrom yX1_copyFrom ∈ gW := gW_3 (List.mem_of_getElem? (i := 219) rfl) rfl
theorem w3_220 : Cond.code yX1_copyFrom cX1_copyFrom 2 none ∈ gW := gW_3 (List.mem_of_getElem? (i := 220) rfl) rfl
theorem w3_221 : Cond.methodLink RX6 179 yX0_bestDial ∈ gW := gW_3 (List.mem_of_getElem? (i := 221) rfl) rfl
theorem w3_222 : Cond.instanceMethod yX0_bestDial ∈ gW := gW_3 (List.mem_of_getElem? (i := 222) rfl) rfl
theorem w3_223 : Cond.selects RX0 yX0_bestDial yX0_bestDial ∈ gW := gW_3 (List.mem_of_getElem? (i := 223) rfl) rfl
theorem w3_224 : Cond.code yX0_bestDial cX0_bestDial 7 (some .int) ∈ gW := gW_3 (List.mem_of_getElem? (i := 224) rfl) rfl
theorem w3_225 : Cond.methodLink RX0 87 yX1_tune ∈ gW := gW_3 (List.mem_of_getElem? (i := 225) rfl) rfl
theorem w3_226 : Cond.methodLink RL 140 yL_next ∈ gW := gW_3 (List.mem_of_getElem? (i := 226) rfl) rfl
theorem w3_227 : Cond.static yL_next ∈ gW := gW_3 (List.mem_of_getElem? (i := 227) rfl) rfl
theorem w3_229 : Cond.methodLink RL 68 yX6_next ∈ gW := gW_3 (List.mem_of_getElem? (i := 229) rfl) rfl
theorem w3_230 : Cond.instanceMethod yX6_next ∈ gW := gW_3 (List.mem_of_getElem? (i := 230) rfl) rfl
theorem w3_231 : Cond.selects RX6 yX6_next yX6_next ∈ gW := gW_3 (List.mem_of_getElem? (i := 231) rfl) rfl
theorem w3_232 : Cond.code yX6_next cX6_next 5 (some .int) ∈ gW := gW_3 (List.mem_of_getElem? (i := 232) rfl) rfl
theorem w3_233 : Cond.methodLink RL 143 yL_apart ∈ gW := gW_3 (List.mem_of_getElem? (i := 233) rfl) rfl
theorem w3_234 : Cond.static yL_apart ∈ gW := gW_3 (List.mem_of_getElem? (i := 234) rfl) rfl
theorem w3_236 : Cond.methodLink RL 71 yX6_apart ∈ gW := gW_3 (List.mem_of_getElem? (i := 236) rfl) rfl
theorem w3_237 : Cond.instanceMethod yX6_apart ∈ gW := gW_3 (List.mem_of_getElem? (i := 237) rfl) rfl
theorem w3_238 : Cond.selects RX6 yX6_apart yX6_apart ∈ gW := gW_3 (List.mem_of_getElem? (i := 238) rfl) rfl
theorem w3_239 : Cond.code yX6_apart cX6_apart 8 (some .int) ∈ gW := gW_3 (List.mem_of_getElem? (i := 239) rfl) rfl
theorem w4_1 : Cond.methodLink RX6 185 yX0_keepsApart ∈ gW := gW_4 (List.mem_of_getElem? (i := 1) rfl) rfl
theorem w4_2 : Cond.instanceMethod yX0_keepsApart ∈ gW := gW_4 (List.mem_of_getElem? (i := 2) rfl) rfl
theorem w4_3 : Cond.selects RX0 yX0_keepsApart yX0_keepsApart ∈ gW := gW_4 (List.mem_of_getElem? (i := 3) rfl) rfl
theorem w4_4 : Cond.code yX0_keepsApart cX0_keepsApart 9 (some .boolean) ∈ gW := gW_4 (List.mem_of_getElem? (i := 4) rfl) rfl
theorem w4_5 : Cond.methodLink RL 146 yL_foresee ∈ gW := gW_4 (List.mem_of_getElem? (i := 5) rfl) rfl
theorem w4_6 : Cond.static yL_foresee ∈ gW := gW_4 (List.mem_of_getElem? (i := 6) rfl) rfl
theorem w4_8 : Cond.methodLink RL 74 yX6_foresee ∈ gW := gW_4 (List.mem_of_getElem? (i := 8) rfl) rfl
theorem w4_9 : Cond.instanceMethod yX6_foresee ∈ gW := gW_4 (List.mem_of_getElem? (i := 9) rfl) rfl
theorem w4_10 : Cond.selects RX6 yX6_foresee yX6_foresee ∈ gW := gW_4 (List.mem_of_getElem? (i := 10) rfl) rfl
theorem w4_11 : Cond.code yX6_foresee cX6_foresee 4 (some .int) ∈ gW := gW_4 (List.mem_of_getElem? (i := 11) rfl) rfl
theorem w4_12 : Cond.methodLink RX6 189 yX0_copyFrom ∈ gW := gW_4 (List.mem_of_getElem? (i := 12) rfl) rfl
theorem w4_13 : Cond.instanceMethod yX0_copyFrom ∈ gW := gW_4 (List.mem_of_getElem? (i := 13) rfl) rfl
theorem w4_14 : Cond.selects RX0 yX0_copyFrom yX0_copyFrom ∈ gW := gW_4 (List.mem_of_getElem? (i := 14) rfl) rfl
theorem w4_15 : Cond.code yX0_copyFrom cX0_copyFrom 5 none ∈ gW := gW_4 (List.mem_of_getElem? (i := 15) rfl) rfl
theorem w4_16 : Cond.methodLink RX0 58 yX3_copyFrom ∈ gW := gW_4 (List.mem_of_getElem? (i := 16) rfl) rfl
theorem w4_17 : Cond.instanceMethod yX3_copyFrom ∈ gW := gW_4 (List.mem_of_getElem? (i := 17) rfl) rfl
theorem w4_18 : Cond.selects RX3 yX3_copyFrom yX3_copyFrom ∈ gW := gW_4 (List.mem_of_getElem? (i := 18) rfl) rfl
theorem w4_19 : Cond.code yX3_copyFrom cX3_copyFrom 2 none ∈ gW := gW_4 (List.mem_of_getElem? (i := 19) rfl) rfl
theorem w4_20 : Cond.methodLink RX3 44 yX1_copyFrom ∈ gW := gW_4 (List.mem_of_getElem? (i := 20) rfl) rfl
theorem w4_21 : Cond.methodLink RX3 48 yX5_copyFrom ∈ gW := gW_4 (List.mem_of_getElem? (i := 21) rfl) rfl
theorem w4_22 : Cond.instanceMethod yX5_copyFrom ∈ gW := gW_4 (List.mem_of_getElem? (i := 22) rfl) rfl
theorem w4_23 : Cond.selects RX5 yX5_copyFrom yX5_copyFrom ∈ gW := gW_4 (List.mem_of_getElem? (i := 23) rfl) rfl
theorem w4_24 : Cond.code yX5_copyFrom cX5_copyFrom 3 none ∈ gW := gW_4 (List.mem_of_getElem? (i := 24) rfl) rfl
theorem w4_25 : Cond.methodLink RX0 62 yX5_copyFrom ∈ gW := gW_4 (List.mem_of_getElem? (i := 25) rfl) rfl
theorem w4_26 : Cond.methodLink RX6 192 yX0_confirmedLines ∈ gW := gW_4 (List.mem_of_getElem? (i := 26) rfl) rfl
theorem w4_27 : Cond.classLink RL 78 RX8 ∈ gW := gW_4 (List.mem_of_getElem? (i := 27) rfl) rfl
theorem w4_28 : Cond.instantiable RX8 10 ∈ gW := gW_4 (List.mem_of_getElem? (i := 28) rfl) rfl
theorem w4_29 : Cond.methodLink RL 80 yX8_init ∈ gW := gW_4 (List.mem_of_getElem? (i := 29) rfl) rfl
theorem w4_30 : Cond.instanceMethod yX8_init ∈ gW := gW_4 (List.mem_of_getElem? (i := 30) rfl) rfl
theorem w4_31 : Cond.code yX8_init cX8_init 1 none ∈ gW := gW_4 (List.mem_of_getElem? (i := 31) rfl) rfl
theorem w4_32 : Cond.methodLink RX8 1 ⟨"java/lang/Object", "<init>", "()V"⟩ ∈ gW := gW_4 (List.mem_of_getElem? (i := 32) rfl) rfl
theorem w4_33 : Cond.classLink RX8 25 RX7 ∈ gW := gW_4 (List.mem_of_getElem? (i := 33) rfl) rfl
theorem w4_34 : Cond.instantiable RX7 9 ∈ gW := gW_4 (List.mem_of_getElem? (i := 34) rfl) rfl
theorem w4_36 : Cond.instanceMethod yX7_init ∈ gW := gW_4 (List.mem_of_getElem? (i := 36) rfl) rfl
theorem w4_37 : Cond.code yX7_init cX7_init 2 none ∈ gW := gW_4 (List.mem_of_getElem? (i := 37) rfl) rfl
theorem w4_38 : Cond.methodLink RX7 9 ⟨"java/lang/Object", "<init>", "()V"⟩ ∈ gW := gW_4 (List.mem_of_getElem? (i := 38) rfl) rfl
theorem w4_39 : Cond.fieldLink RX7 34 "CrystalClubModel$State" "hour" "I" ∈ gW := gW_4 (List.mem_of_getElem? (i := 39) rfl) rfl
theorem w4_41 : Cond.fieldLink RX7 38 "CrystalClubModel$State" "letters" "I" ∈ gW := gW_4 (List.mem_of_getElem? (i := 41) rfl) rfl
theorem w4_43 : Cond.fieldLink RX7 41 "CrystalClubModel$State" "written" "I" ∈ gW := gW_4 (List.mem_of_getElem? (i := 43) rfl) rfl
theorem w4_45 : Cond.fieldLink RX7 44 "CrystalClubModel$State" "answered" "I" ∈ gW := gW_4 (List.mem_of_getElem? (i := 45) rfl) rfl
theorem w4_47 : Cond.fieldLink RX7 15 "CrystalClubModel$State" "crystal" "[I" ∈ gW := gW_4 (List.mem_of_getElem? (i := 47) rfl) rfl
theorem w4_49 : Cond.fieldLink RX7 19 "CrystalClubModel$State" "lines" "[I" ∈ gW := gW_4 (List.mem_of_getElem? (i := 49) rfl) rfl
theorem w4_51 : Cond.fieldLink RX7 22 "CrystalClubModel$State" "log" "[I" ∈ gW := gW_4 (List.mem_of_getElem? (i := 51) rfl) rfl
theorem w4_53 : Cond.fieldLink RX7 25 "CrystalClubModel$State" "mail" "[I" ∈ gW := gW_4 (List.mem_of_getElem? (i := 53) rfl) rfl
theorem w4_55 : Cond.fieldLink RX7 3 "CrystalClubModel$State" "this$0" "LCrystalClubModel;" ∈ gW := gW_4 (List.mem_of_getElem? (i := 55) rfl) rfl
theorem w4_56 : Cond.lays RX7 "CrystalClubModel$State" "hour" "I" ∈ gW := gW_4 (List.mem_of_getElem? (i := 56) rfl) rfl
theorem w4_58 : Cond.lays RX7 "CrystalClubModel$State" "letters" "I" ∈ gW := gW_4 (List.mem_of_getElem? (i := 58) rfl) rfl
theorem w4_60 : Cond.lays RX7 "CrystalClubModel$State" "written" "I" ∈ gW := gW_4 (List.mem_of_getElem? (i := 60) rfl) rfl
theorem w4_62 : Cond.lays RX7 "CrystalClubModel$State" "answered" "I" ∈ gW := gW_4 (List.mem_of_getElem? (i := 62) rfl) rfl
theorem w4_64 : Cond.laysFinal RX7 "CrystalClubModel$State" "crystal" "[I" ∈ gW := gW_4 (List.mem_of_getElem? (i := 64) rfl) rfl
theorem w4_66 : Cond.laysFinal RX7 "CrystalClubModel$State" "lines" "[I" ∈ gW := gW_4 (List.mem_of_getElem? (i := 66) rfl) rfl
theorem w4_68 : Cond.laysFinal RX7 "CrystalClubModel$State" "log" "[I" ∈ gW := gW_4 (List.mem_of_getElem? (i := 68) rfl) rfl
theorem w4_70 : Cond.laysFinal RX7 "CrystalClubModel$State" "mail" "[I" ∈ gW := gW_4 (List.mem_of_getElem? (i := 70) rfl) rfl
theorem w4_72 : Cond.laysFinal RX7 "CrystalClubModel$State" "this$0" "LCrystalClubModel;" ∈ gW := gW_4 (List.mem_of_getElem? (i := 72) rfl) rfl
theorem w4_75 : Cond.fieldLink RX8 37 "CrystalClubModel" "thrown" "I" ∈ gW := gW_4 (List.mem_of_getElem? (i := 75) rfl) rfl
theorem w4_76 : Cond.fieldLink RX8 41 "CrystalClubModel" "stations" "I" ∈ gW := gW_4 (List.mem_of_getElem? (i := 76) rfl) rfl
theorem w4_78 : Cond.fieldLink RX8 48 "CrystalClubModel" "members" "I" ∈ gW := gW_4 (List.mem_of_getElem? (i := 78) rfl) rfl
theorem w4_79 : Cond.fieldLink RX8 9 "CrystalClubModel" "air" "[I" ∈ gW := gW_4 (List.mem_of_getElem? (i := 79) rfl) rfl
theorem w4_80 : Cond.fieldLink RX8 13 "CrystalClubModel" "turns" "[I" ∈ gW := gW_4 (List.mem_of_getElem? (i := 80) rfl) rfl
theorem w4_82 : Cond.fieldLink RX8 16 "CrystalClubModel" "stand" "[I" ∈ gW := gW_4 (List.mem_of_getElem? (i := 82) rfl) rfl
theorem w4_84 : Cond.fieldLink RX8 19 "CrystalClubModel" "aerial" "[I" ∈ gW := gW_4 (List.mem_of_getElem? (i := 84) rfl) rfl
theorem w4_85 : Cond.fieldLink RX8 22 "CrystalClubModel" "ears" "[I" ∈ gW := gW_4 (List.mem_of_getElem? (i := 85) rfl) rfl
theorem w4_87 : Cond.fieldLink RX8 30 "CrystalClubModel" "s" "LCrystalClubModel$State;" ∈ gW := gW_4 (List.mem_of_getElem? (i := 87) rfl) rfl
theorem w4_88 : Cond.fieldLink RX8 34 "CrystalClubModel" "ahead" "LCrystalClubModel$State;" ∈ gW := gW_4 (List.mem_of_getElem? (i := 88) rfl) rfl
theorem w4_89 : Cond.lays RX8 "CrystalClubModel" "thrown" "I" ∈ gW := gW_4 (List.mem_of_getElem? (i := 89) rfl) rfl
theorem w4_91 : Cond.lays RX8 "CrystalClubModel" "stations" "I" ∈ gW := gW_4 (List.mem_of_getElem? (i := 91) rfl) rfl
theorem w4_93 : Cond.lays RX8 "CrystalClubModel" "members" "I" ∈ gW := gW_4 (List.mem_of_getElem? (i := 93) rfl) rfl
theorem w4_95 : Cond.laysFinal RX8 "CrystalClubModel" "air" "[I" ∈ gW := gW_4 (List.mem_of_getElem? (i := 95) rfl) rfl
theorem w4_97 : Cond.laysFinal RX8 "CrystalClubModel" "turns" "[I" ∈ gW := gW_4 (List.mem_of_getElem? (i := 97) rfl) rfl
theorem w4_99 : Cond.laysFinal RX8 "CrystalClubModel" "stand" "[I" ∈ gW := gW_4 (List.mem_of_getElem? (i := 99) rfl) rfl
theorem w4_101 : Cond.laysFinal RX8 "CrystalClubModel" "aerial" "[I" ∈ gW := gW_4 (List.mem_of_getElem? (i := 101) rfl) rfl
theorem w4_103 : Cond.laysFinal RX8 "CrystalClubModel" "ears" "[I" ∈ gW := gW_4 (List.mem_of_getElem? (i := 103) rfl) rfl
theorem w4_105 : Cond.laysFinal RX8 "CrystalClubModel" "s" "LCrystalClubModel$State;" ∈ gW := gW_4 (List.mem_of_getElem? (i := 105) rfl) rfl
theorem w4_107 : Cond.laysFinal RX8 "CrystalClubModel" "ahead" "LCrystalClubModel$State;" ∈ gW := gW_4 (List.mem_of_getElem? (i := 107) rfl) rfl
theorem w4_110 : Cond.methodLink RL 87 yX8_thrown ∈ gW := gW_4 (List.mem_of_getElem? (i := 110) rfl) rfl
theorem w4_111 : Cond.instanceMethod yX8_thrown ∈ gW := gW_4 (List.mem_of_getElem? (i := 111) rfl) rfl
theorem w4_112 : Cond.selects RX8 yX8_thrown yX8_thrown ∈ gW := gW_4 (List.mem_of_getElem? (i := 112) rfl) rfl
theorem w4_113 : Cond.code yX8_thrown cX8_thrown 1 (some .int) ∈ gW := gW_4 (List.mem_of_getElem? (i := 113) rfl) rfl
theorem w4_114 : Cond.methodLink RL 86 yX8_addStation ∈ gW := gW_4 (List.mem_of_getElem? (i := 114) rfl) rfl
theorem w4_115 : Cond.instanceMethod yX8_addStation ∈ gW := gW_4 (List.mem_of_getElem? (i := 115) rfl) rfl
theorem w4_116 : Cond.selects RX8 yX8_addStation yX8_addStation ∈ gW := gW_4 (List.mem_of_getElem? (i := 116) rfl) rfl
theorem w4_117 : Cond.code yX8_addStation cX8_addStation 8 (some .int) ∈ gW := gW_4 (List.mem_of_getElem? (i := 117) rfl) rfl
theorem w4_118 : Cond.methodLink RX8 44 yX8_isIn ∈ gW := gW_4 (List.mem_of_getElem? (i := 118) rfl) rfl
theorem w4_119 : Cond.static yX8_isIn ∈ gW := gW_4 (List.mem_of_getElem? (i := 119) rfl) rfl
theorem w4_120 : Cond.code yX8_isIn cX8_isIn 3 (some .boolean) ∈ gW := gW_4 (List.mem_of_getElem? (i := 120) rfl) rfl
theorem w4_121 : Cond.methodLink RX8 82 yX8_no ∈ gW := gW_4 (List.mem_of_getElem? (i := 121) rfl) rfl
theorem w4_123 : Cond.instanceMethod yX8_no ∈ gW := gW_4 (List.mem_of_getElem? (i := 123) rfl) rfl
theorem w4_124 : Cond.code yX8_no cX8_no 2 (some .int) ∈ gW := gW_4 (List.mem_of_getElem? (i := 124) rfl) rfl
theorem w4_125 : Cond.methodLink RX8 85 ⟨"java/lang/System", "arraycopy", "(Ljava/lang/Object;ILjava/lang/Object;II)V"⟩ ∈ gW := gW_4 (List.mem_of_getElem? (i := 125) rfl) rfl
theorem w4_126 : Cond.static ⟨"java/lang/System", "arraycopy", "(Ljava/lang/Object;ILjava/lang/Object;II)V"⟩ ∈ gW := gW_4 (List.mem_of_getElem? (i := 126) rfl) rfl
theorem w4_127 : Cond.native ⟨"java/lang/System", "arraycopy", "(Ljava/lang/Object;ILjava/lang/Object;II)V"⟩ ∈ gW := gW_4 (List.mem_of_getElem? (i := 127) rfl) rfl
theorem w4_128 : Cond.methodLink RL 94 yX8_join ∈ gW := gW_4 (List.mem_of_getElem? (i := 128) rfl) rfl
theorem w4_129 : Cond.instanceMethod yX8_join ∈ gW := gW_4 (List.mem_of_getElem? (i := 129) rfl) rfl
theorem w4_130 : Cond.selects RX8 yX8_join yX8_join ∈ gW := gW_4 (List.mem_of_getElem? (i := 130) rfl) rfl
theorem w4_131 : Cond.code yX8_join cX8_join 3 (some .int) ∈ gW := gW_4 (List.mem_of_getElem? (i := 131) rfl) rfl
theorem w4_132 : Cond.methodLink RL 97 yX8_turn ∈ gW := gW_4 (List.mem_of_getElem? (i := 132) rfl) rfl
theorem w4_133 : Cond.instanceMethod yX8_turn ∈ gW := gW_4 (List.mem_of_getElem? (i := 133) rfl) rfl
theorem w4_134 : Cond.selects RX8 yX8_turn yX8_turn ∈ gW := gW_4 (List.mem_of_getElem? (i := 134) rfl) rfl
theorem w4_135 : Cond.code yX8_turn cX8_turn 4 (some .int) ∈ gW := gW_4 (List.mem_of_getElem? (i := 135) rfl) rfl
theorem w4_136 : Cond.methodLink RX8 51 yX8_isMember ∈ gW := gW_4 (List.mem_of_getElem? (i := 136) rfl) rfl
theorem w4_138 : Cond.instanceMethod yX8_isMember ∈ gW := gW_4 (List.mem_of_getElem? (i := 138) rfl) rfl
theorem w4_139 : Cond.code yX8_isMember cX8_isMember 2 (some .boolean) ∈ gW := gW_4 (List.mem_of_getElem? (i := 139) rfl) rfl
theorem w4_140 : Cond.methodLink RL 100 yX8_wind ∈ gW := gW_4 (List.mem_of_getElem? (i := 140) rfl) rfl
theorem w4_141 : Cond.instanceMethod yX8_wind ∈ gW := gW_4 (List.mem_of_getElem? (i := 141) rfl) rfl
theorem w4_142 : Cond.selects RX8 yX8_wind yX8_wind ∈ gW := gW_4 (List.mem_of_getElem? (i := 142) rfl) rfl
theorem w4_143 : Cond.code yX8_wind cX8_wind 4 (some .int) ∈ gW := gW_4 (List.mem_of_getElem? (i := 143) rfl) rfl
theorem w4_144 : Cond.methodLink RL 104 yX8_listen ∈ gW := gW_4 (List.mem_of_getElem? (i := 144) rfl) rfl
theorem w4_145 : Cond.instanceMethod yX8_listen ∈ gW := gW_4 (List.mem_of_getElem? (i := 145) rfl) rfl
theorem w4_146 : Cond.selects RX8 yX8_listen yX8_listen ∈ gW := gW_4 (List.mem_of_getElem? (i := 146) rfl) rfl
theorem w4_147 : Cond.code yX8_listen cX8_listen 4 (some .boolean) ∈ gW := gW_4 (List.mem_of_getElem? (i := 147) rfl) rfl
theorem w4_148 : Cond.methodLink RL 108 yX8_renew ∈ gW := gW_4 (List.mem_of_getElem? (i := 148) rfl) rfl
theorem w4_149 : Cond.instanceMethod yX8_renew ∈ gW := gW_4 (List.mem_of_getElem? (i := 149) rfl) rfl
theorem w4_150 : Cond.selects RX8 yX8_renew yX8_renew ∈ gW := gW_4 (List.mem_of_getElem? (i := 150) rfl) rfl
theorem w4_151 : Cond.code yX8_renew cX8_renew 3 (some .int) ∈ gW := gW_4 (List.mem_of_getElem? (i := 151) rfl) rfl
theorem w4_152 : Cond.methodLink RL 111 yX8_station ∈ gW := gW_4 (List.mem_of_getElem? (i := 152) rfl) rfl
theorem w4_153 : Cond.instanceMethod yX8_station ∈ gW := gW_4 (List.mem_of_getElem? (i := 153) rfl) rfl
theorem w4_154 : Cond.selects RX8 yX8_station yX8_station ∈ gW := gW_4 (List.mem_of_getElem? (i := 154) rfl) rfl
theorem w4_155 : Cond.code yX8_station cX8_station 3 (some .int) ∈ gW := gW_4 (List.mem_of_getElem? (i := 155) rfl) rfl
theorem w4_156 : Cond.methodLink RX8 107 yX8_isStation ∈ gW := gW_4 (List.mem_of_getElem? (i := 156) rfl) rfl
theorem w4_158 : Cond.instanceMethod yX8_isStation ∈ gW := gW_4 (List.mem_of_getElem? (i := 158) rfl) rfl
theorem w4_159 : Cond.code yX8_isStation cX8_isStation 2 (some .boolean) ∈ gW := gW_4 (List.mem_of_getElem? (i := 159) rfl) rfl
theorem w4_160 : Cond.methodLink RX8 110 yX8_stationTold ∈ gW := gW_4 (List.mem_of_getElem? (i := 160) rfl) rfl
theorem w4_162 : Cond.instanceMethod yX8_stationTold ∈ gW := gW_4 (List.mem_of_getElem? (i := 162) rfl) rfl
theorem w4_163 : Cond.code yX8_stationTold cX8_stationTold 3 (some .int) ∈ gW := gW_4 (List.mem_of_getElem? (i := 163) rfl) rfl
theorem w4_164 : Cond.methodLink RX8 101 yX8_onAir ∈ gW := gW_4 (List.mem_of_getElem? (i := 164) rfl) rfl
theorem w4_166 : Cond.instanceMethod yX8_onAir ∈ gW := gW_4 (List.mem_of_getElem? (i := 166) rfl) rfl
theorem w4_167 : Cond.code yX8_onAir cX8_onAir 4 (some .int) ∈ gW := gW_4 (List.mem_of_getElem? (i := 167) rfl) rfl
theorem w4_168 : Cond.methodLink RX8 75 yX8_fading ∈ gW := gW_4 (List.mem_of_getElem? (i := 168) rfl) rfl
theorem w4_170 : Cond.instanceMethod yX8_fading ∈ gW := gW_4 (List.mem_of_getElem? (i := 170) rfl) rfl
theorem w4_171 : Cond.code yX8_fading cX8_fading 3 (some .int) ∈ gW := gW_4 (List.mem_of_getElem? (i := 171) rfl) rfl
theorem w4_172 : Cond.methodLink RX8 65 Lib.Math.abs.name ∈ gW := gW_4 (List.mem_of_getElem? (i := 172) rfl) rfl
theorem w4_173 : Cond.static Lib.Math.abs.name ∈ gW := gW_4 (List.mem_of_getElem? (i := 173) rfl) rfl
theorem w4_174 : Cond.code Lib.Math.abs.name cJ9_abs_0f7a4 1 (some .int) ∈ gW := gW_4 (List.mem_of_getElem? (i := 174) rfl) rfl
theorem w4_175 : Cond.methodLink RX8 104 yX8_cards ∈ gW := gW_4 (List.mem_of_getElem? (i := 175) rfl) rfl
theorem w4_177 : Cond.instanceMethod yX8_cards ∈ gW := gW_4 (List.mem_of_getElem? (i := 177) rfl) rfl
theorem w4_178 : Cond.code yX8_cards cX8_cards 4 (some .int) ∈ gW := gW_4 (List.mem_of_getElem? (i := 178) rfl) rfl
theorem w4_179 : Cond.methodLink RX8 94 yX7_hasCard ∈ gW := gW_4 (List.mem_of_getElem? (i := 179) rfl) rfl
theorem w4_180 : Cond.instanceMethod yX7_hasCard ∈ gW := gW_4 (List.mem_of_getElem? (i := 180) rfl) rfl
theorem w4_181 : Cond.selects RX7 yX7_hasCard yX7_hasCard ∈ gW := gW_4 (List.mem_of_getElem? (i := 181) rfl) rfl
theorem w4_182 : Cond.code yX7_hasCard cX7_hasCard 5 (some .boolean) ∈ gW := gW_4 (List.mem_of_getElem? (i := 182) rfl) rfl
theorem w4_183 : Cond.methodLink RL 114 yX8_member ∈ gW := gW_4 (List.mem_of_getElem? (i := 183) rfl) rfl
theorem w4_184 : Cond.instanceMethod yX8_member ∈ gW := gW_4 (List.mem_of_getElem? (i := 184) rfl) rfl
theorem w4_185 : Cond.selects RX8 yX8_member yX8_member ∈ gW := gW_4 (List.mem_of_getElem? (i := 185) rfl) rfl
theorem w4_186 : Cond.code yX8_member cX8_member 3 (some .int) ∈ gW := gW_4 (List.mem_of_getElem? (i := 186) rfl) rfl
theorem w4_187 : Cond.methodLink RX8 117 yX8_memberTold ∈ gW := gW_4 (List.mem_of_getElem? (i := 187) rfl) rfl
theorem w4_189 : Cond.instanceMethod yX8_memberTold ∈ gW := gW_4 (List.mem_of_getElem? (i := 189) rfl) rfl
theorem w4_190 : Cond.code yX8_memberTold cX8_memberTold 3 (some .int) ∈ gW := gW_4 (List.mem_of_getElem? (i := 190) rfl) rfl
theorem w4_191 : Cond.methodLink RX8 72 yX8_tuned ∈ gW := gW_4 (List.mem_of_getElem? (i := 191) rfl) rfl
theorem w4_192 : Cond.static yX8_tuned ∈ gW := gW_4 (List.mem_of_getElem? (i := 192) rfl) rfl
theorem w4_193 : Cond.code yX8_tuned cX8_tuned 2 (some .int) ∈ gW := gW_4 (List.mem_of_getElem? (i := 193) rfl) rfl
theorem w4_194 : Cond.constant RX8 58 (100000) ∈ gW := gW_4 (List.mem_of_getElem? (i := 194) rfl) rfl
theorem w4_195 : Cond.methodLink RX8 69 yX8_width ∈ gW := gW_4 (List.mem_of_getElem? (i := 195) rfl) rfl
theorem w4_196 : Cond.static yX8_width ∈ gW := gW_4 (List.mem_of_getElem? (i := 196) rfl) rfl
theorem w4_197 : Cond.code yX8_width cX8_width 1 (some .int) ∈ gW := gW_4 (List.mem_of_getElem? (i := 197) rfl) rfl
theorem w4_198 : Cond.methodLink RX8 59 Lib.Math.max.name ∈ gW := gW_4 (List.mem_of_getElem? (i := 198) rfl) rfl
theorem w4_199 : Cond.methodLink RX8 113 yX8_held ∈ gW := gW_4 (List.mem_of_getElem? (i := 199) rfl) rfl
theorem w4_201 : Cond.instanceMethod yX8_held ∈ gW := gW_4 (List.mem_of_getElem? (i := 201) rfl) rfl
theorem w4_202 : Cond.code yX8_held cX8_held 5 (some .int) ∈ gW := gW_4 (List.mem_of_getElem? (i := 202) rfl) rfl
theorem w4_203 : Cond.methodLink RL 117 yX8_strength ∈ gW := gW_4 (List.mem_of_getElem? (i := 203) rfl) rfl
theorem w4_204 : Cond.instanceMethod yX8_strength ∈ gW := gW_4 (List.mem_of_getElem? (i := 204) rfl) rfl
theorem w4_205 : Cond.selects RX8 yX8_strength yX8_strength ∈ gW := gW_4 (List.mem_of_getElem? (i := 205) rfl) rfl
theorem w4_206 : Cond.code yX8_strength cX8_strength 3 (some .int) ∈ gW := gW_4 (List.mem_of_getElem? (i := 206) rfl) rfl
theorem w4_207 : Cond.methodLink RX8 78 yX8_reach ∈ gW := gW_4 (List.mem_of_getElem? (i := 207) rfl) rfl
theorem w4_209 : Cond.instanceMethod yX8_reach ∈ gW := gW_4 (List.mem_of_getElem? (i := 209) rfl) rfl
theorem w4_210 : Cond.code yX8_reach cX8_reach 10 (some .int) ∈ gW := gW_4 (List.mem_of_getElem? (i := 210) rfl) rfl
theorem w4_211 : Cond.methodLink RL 120 yX8_hears ∈ gW := gW_4 (List.mem_of_getElem? (i := 211) rfl) rfl
theorem w4_212 : Cond.instanceMethod yX8_hears ∈ gW := gW_4 (List.mem_of_getElem? (i := 212) rfl) rfl
theorem w4_213 : Cond.selects RX8 yX8_hears yX8_hears ∈ gW := gW_4 (List.mem_of_getElem? (i := 213) rfl) rfl
theorem w4_214 : Cond.code yX8_hears cX8_hears 2 (some .int) ∈ gW := gW_4 (List.mem_of_getElem? (i := 214) rfl) rfl
theorem w4_215 : Cond.methodLink RX8 120 yX8_heard ∈ gW := gW_4 (List.mem_of_getElem? (i := 215) rfl) rfl
theorem w4_217 : Cond.instanceMethod yX8_heard ∈ gW := gW_4 (List.mem_of_getElem? (i := 217) rfl) rfl
theorem w4_218 : Cond.code yX8_heard cX8_heard 13 (some .int) ∈ gW := gW_4 (List.mem_of_getElem? (i := 218) rfl) rfl
theorem w4_219 : Cond.methodLink RL 124 yX8_log ∈ gW := gW_4 (List.mem_of_getElem? (i := 219) rfl) rfl
theorem w4_220 : Cond.instanceMethod yX8_log ∈ gW := gW_4 (List.mem_of_getElem? (i := 220) rfl) rfl
theorem w4_221 : Cond.selects RX8 yX8_log yX8_log ∈ gW := gW_4 (List.mem_of_getElem? (i := 221) rfl) rfl
theorem w4_222 : Cond.code yX8_log cX8_log 4 (some .int) ∈ gW := gW_4 (List.mem_of_getElem? (i := 222) rfl) rfl
theorem w4_223 : Cond.methodLink RX8 123 yX8_isLine ∈ gW := gW_4 (List.mem_of_getElem? (i := 223) rfl) rfl
theorem w4_225 : Cond.instanceMethod yX8_isLine ∈ gW := gW_4 (List.mem_of_getElem? (i := 225) rfl) rfl
theorem w4_226 : Cond.code yX8_isLine cX8_isLine 3 (some .boolean) ∈ gW := gW_4 (List.mem_of_getElem? (i := 226) rfl) rfl
theorem w4_227 : Cond.methodLink RL 127 yX8_write ∈ gW := gW_4 (List.mem_of_getElem? (i := 227) rfl) rfl
theorem w4_228 : Cond.instanceMethod yX8_write ∈ gW := gW_4 (List.mem_of_getElem? (i := 228) rfl) rfl
theorem w4_229 : Cond.selects RX8 yX8_write yX8_write ∈ gW := gW_4 (List.mem_of_getElem? (i := 229) rfl) rfl
theorem w4_230 : Cond.code yX8_write cX8_write 6 (some .int) ∈ gW := gW_4 (List.mem_of_getElem? (i := 230) rfl) rfl
theorem w4_231 : Cond.methodLink RL 130 yX8_pass ∈ gW := gW_4 (List.mem_of_getElem? (i := 231) rfl) rfl
theorem w4_232 : Cond.instanceMethod yX8_pass ∈ gW := gW_4 (List.mem_of_getElem? (i := 232) rfl) rfl
theorem w4_233 : Cond.selects RX8 yX8_pass yX8_pass ∈ gW := gW_4 (List.mem_of_getElem? (i := 233) rfl) rfl
theorem w4_234 : Cond.code yX8_pass cX8_pass 3 (some .int) ∈ gW := gW_4 (List.mem_of_getElem? (i := 234) rfl) rfl
theorem w4_235 : Cond.methodLink RX8 138 yX7_pass ∈ gW := gW_4 (List.mem_of_getElem? (i := 235) rfl) rfl
theorem w4_236 : Cond.instanceMethod yX7_pass ∈ gW := gW_4 (List.mem_of_getElem? (i := 236) rfl) rfl
theorem w4_237 : Cond.selects RX7 yX7_pass yX7_pass ∈ gW := gW_4 (List.mem_of_getElem? (i := 237) rfl) rfl
theorem w4_238 : Cond.code yX7_pass cX7_pass 4 none ∈ gW := gW_4 (List.mem_of_getElem? (i := 238) rfl) rfl
theorem w4_239 : Cond.methodLink RX7 78 yX7_hear ∈ gW := gW_4 (List.mem_of_getElem? (i := 239) rfl) rfl
theorem w5_1 : Cond.instanceMethod yX7_hear ∈ gW := gW_5 (List.mem_of_getElem? (i := 1) rfl) rfl
theorem w5_2 : Cond.code yX7_hear cX7_hear 5 none ∈ gW := gW_5 (List.mem_of_getElem? (i := 2) rfl) rfl
theorem w5_5 : Cond.methodLink RX7 71 yX7_isInDay ∈ gW := gW_5 (List.mem_of_getElem? (i := 5) rfl) rfl
theorem w5_7 : Cond.instanceMethod yX7_isInDay ∈ gW := gW_5 (List.mem_of_getElem? (i := 7) rfl) rfl
theorem w5_8 : Cond.code yX7_isInDay cX7_isInDay 5 (some .boolean) ∈ gW := gW_5 (List.mem_of_getElem? (i := 8) rfl) rfl
theorem w5_10 : Cond.methodLink RX7 81 Lib.Math.max.name ∈ gW := gW_5 (List.mem_of_getElem? (i := 10) rfl) rfl
theorem w5_11 : Cond.methodLink RX7 87 yX7_answer ∈ gW := gW_5 (List.mem_of_getElem? (i := 11) rfl) rfl
theorem w5_13 : Cond.instanceMethod yX7_answer ∈ gW := gW_5 (List.mem_of_getElem? (i := 13) rfl) rfl
theorem w5_14 : Cond.code yX7_answer cX7_answer 5 none ∈ gW := gW_5 (List.mem_of_getElem? (i := 14) rfl) rfl
theorem w5_15 : Cond.methodLink RL 133 yX8_count ∈ gW := gW_5 (List.mem_of_getElem? (i := 15) rfl) rfl
theorem w5_16 : Cond.instanceMethod yX8_count ∈ gW := gW_5 (List.mem_of_getElem? (i := 16) rfl) rfl
theorem w5_17 : Cond.selects RX8 yX8_count yX8_count ∈ gW := gW_5 (List.mem_of_getElem? (i := 17) rfl) rfl
theorem w5_18 : Cond.code yX8_count cX8_count 2 (some .int) ∈ gW := gW_5 (List.mem_of_getElem? (i := 18) rfl) rfl
theorem w5_19 : Cond.methodLink RX8 150 yX8_counted ∈ gW := gW_5 (List.mem_of_getElem? (i := 19) rfl) rfl
theorem w5_21 : Cond.instanceMethod yX8_counted ∈ gW := gW_5 (List.mem_of_getElem? (i := 21) rfl) rfl
theorem w5_22 : Cond.code yX8_counted cX8_counted 4 (some .int) ∈ gW := gW_5 (List.mem_of_getElem? (i := 22) rfl) rfl
theorem w5_23 : Cond.methodLink RX8 142 yJ6_bitCount_0f7a4 ∈ gW := gW_5 (List.mem_of_getElem? (i := 23) rfl) rfl
theorem w5_24 : Cond.methodLink RL 136 yX8_rank ∈ gW := gW_5 (List.mem_of_getElem? (i := 24) rfl) rfl
theorem w5_25 : Cond.instanceMethod yX8_rank ∈ gW := gW_5 (List.mem_of_getElem? (i := 25) rfl) rfl
theorem w5_26 : Cond.selects RX8 yX8_rank yX8_rank ∈ gW := gW_5 (List.mem_of_getElem? (i := 26) rfl) rfl
theorem w5_27 : Cond.code yX8_rank cX8_rank 5 (some .int) ∈ gW := gW_5 (List.mem_of_getElem? (i := 27) rfl) rfl
theorem w5_28 : Cond.methodLink RX8 153 yX8_leads ∈ gW := gW_5 (List.mem_of_getElem? (i := 28) rfl) rfl
theorem w5_30 : Cond.instanceMethod yX8_leads ∈ gW := gW_5 (List.mem_of_getElem? (i := 30) rfl) rfl
theorem w5_31 : Cond.code yX8_leads cX8_leads 4 (some .boolean) ∈ gW := gW_5 (List.mem_of_getElem? (i := 31) rfl) rfl
theorem w5_32 : Cond.methodLink RL 139 yX8_dial ∈ gW := gW_5 (List.mem_of_getElem? (i := 32) rfl) rfl
theorem w5_33 : Cond.instanceMethod yX8_dial ∈ gW := gW_5 (List.mem_of_getElem? (i := 33) rfl) rfl
theorem w5_34 : Cond.selects RX8 yX8_dial yX8_dial ∈ gW := gW_5 (List.mem_of_getElem? (i := 34) rfl) rfl
theorem w5_35 : Cond.code yX8_dial cX8_dial 8 (some .int) ∈ gW := gW_5 (List.mem_of_getElem? (i := 35) rfl) rfl
theorem w5_36 : Cond.methodLink RL 142 yX8_next ∈ gW := gW_5 (List.mem_of_getElem? (i := 36) rfl) rfl
theorem w5_37 : Cond.instanceMethod yX8_next ∈ gW := gW_5 (List.mem_of_getElem? (i := 37) rfl) rfl
theorem w5_38 : Cond.selects RX8 yX8_next yX8_next ∈ gW := gW_5 (List.mem_of_getElem? (i := 38) rfl) rfl
theorem w5_39 : Cond.code yX8_next cX8_next 5 (some .int) ∈ gW := gW_5 (List.mem_of_getElem? (i := 39) rfl) rfl
theorem w5_40 : Cond.methodLink RL 145 yX8_apart ∈ gW := gW_5 (List.mem_of_getElem? (i := 40) rfl) rfl
theorem w5_41 : Cond.instanceMethod yX8_apart ∈ gW := gW_5 (List.mem_of_getElem? (i := 41) rfl) rfl
theorem w5_42 : Cond.selects RX8 yX8_apart yX8_apart ∈ gW := gW_5 (List.mem_of_getElem? (i := 42) rfl) rfl
theorem w5_43 : Cond.code yX8_apart cX8_apart 10 (some .int) ∈ gW := gW_5 (List.mem_of_getElem? (i := 43) rfl) rfl
theorem w5_44 : Cond.methodLink RL 148 yX8_foresee ∈ gW := gW_5 (List.mem_of_getElem? (i := 44) rfl) rfl
theorem w5_45 : Cond.instanceMethod yX8_foresee ∈ gW := gW_5 (List.mem_of_getElem? (i := 45) rfl) rfl
theorem w5_46 : Cond.selects RX8 yX8_foresee yX8_foresee ∈ gW := gW_5 (List.mem_of_getElem? (i := 46) rfl) rfl
theorem w5_47 : Cond.code yX8_foresee cX8_foresee 3 (some .int) ∈ gW := gW_5 (List.mem_of_getElem? (i := 47) rfl) rfl
theorem w5_48 : Cond.methodLink RX8 156 yX7_become ∈ gW := gW_5 (List.mem_of_getElem? (i := 48) rfl) rfl
theorem w5_49 : Cond.instanceMethod yX7_become ∈ gW := gW_5 (List.mem_of_getElem? (i := 49) rfl) rfl
theorem w5_50 : Cond.selects RX7 yX7_become yX7_become ∈ gW := gW_5 (List.mem_of_getElem? (i := 50) rfl) rfl
theorem w5_51 : Cond.code yX7_become cX7_become 2 none ∈ gW := gW_5 (List.mem_of_getElem? (i := 51) rfl) rfl
theorem w5_52 : Cond.methodLink RX7 47 yX7_copy ∈ gW := gW_5 (List.mem_of_getElem? (i := 52) rfl) rfl
theorem w5_54 : Cond.instanceMethod yX7_copy ∈ gW := gW_5 (List.mem_of_getElem? (i := 54) rfl) rfl
theorem w5_55 : Cond.code yX7_copy cX7_copy 3 none ∈ gW := gW_5 (List.mem_of_getElem? (i := 55) rfl) rfl
theorem w5_56 : Cond.methodLink RX7 28 ⟨"java/lang/System", "arraycopy", "(Ljava/lang/Object;ILjava/lang/Object;II)V"⟩ ∈ gW := gW_5 (List.mem_of_getElem? (i := 56) rfl) rfl
theorem w5_57 : Cond.methodLink RL 153 yX8_mean ∈ gW := gW_5 (List.mem_of_getElem? (i := 57) rfl) rfl
theorem w5_58 : Cond.instanceMethod yX8_mean ∈ gW := gW_5 (List.mem_of_getElem? (i := 58) rfl) rfl
theorem w5_59 : Cond.selects RX8 yX8_mean yX8_mean ∈ gW := gW_5 (List.mem_of_getElem? (i := 59) rfl) rfl
theorem w5_60 : Cond.code yX8_mean cX8_mean 4 (some .double) ∈ gW := gW_5 (List.mem_of_getElem? (i := 60) rfl) rfl
theorem w5_61 : Cond.methodLink RL 158 yX8_digest ∈ gW := gW_5 (List.mem_of_getElem? (i := 61) rfl) rfl
theorem w5_62 : Cond.instanceMethod yX8_digest ∈ gW := gW_5 (List.mem_of_getElem? (i := 62) rfl) rfl
theorem w5_63 : Cond.selects RX8 yX8_digest yX8_digest ∈ gW := gW_5 (List.mem_of_getElem? (i := 63) rfl) rfl
theorem w5_64 : Cond.code yX8_digest cX8_digest 5 (some .long) ∈ gW := gW_5 (List.mem_of_getElem? (i := 64) rfl) rfl
theorem w5_65 : Cond.constantLong RX8 160 (701) ∈ gW := gW_5 (List.mem_of_getElem? (i := 65) rfl) rfl
theorem w5_66 : Cond.constantLong RX8 162 (31) ∈ gW := gW_5 (List.mem_of_getElem? (i := 66) rfl) rfl
theorem w5_67 : Cond.arrayClass .long ∈ gW := gW_5 (List.mem_of_getElem? (i := 67) rfl) rfl
theorem ws_0 : Cond.selects RX0 yX0_sumOfLogs yX0_sumOfLogs ∈ gW := gW_s (List.mem_of_getElem? (i := 0) rfl) rfl
theorem ws_1 : Cond.selects RX0 yX0_stationsOnAir yX0_stationsOnAir ∈ gW := gW_s (List.mem_of_getElem? (i := 1) rfl) rfl
theorem ws_2 : Cond.selects RX0 yX0_listeners yX0_listeners ∈ gW := gW_s (List.mem_of_getElem? (i := 2) rfl) rfl
theorem ws_3 : Cond.selects RX0 yX0_membersWithCardOf yX0_membersWithCardOf ∈ gW := gW_s (List.mem_of_getElem? (i := 3) rfl) rfl
theorem ws_4 : Cond.selects RX0 yX0_withMember yX0_withMember ∈ gW := gW_s (List.mem_of_getElem? (i := 4) rfl) rfl
theorem ws_5 : Cond.selects RX0 yX0_scoreOf yX0_scoreOf ∈ gW := gW_s (List.mem_of_getElem? (i := 5) rfl) rfl
theorem ws_6 : Cond.selects "java/lang/Throwable" ⟨"java/lang/Throwable", "fillInStackTrace", "(I)Ljava/lang/Throwable;"⟩ ⟨"java/lang/Throwable", "fillInStackTrace", "(I)Ljava/lang/Throwable;"⟩ ∈ gW := gW_s (List.mem_of_getElem? (i := 6) rfl) rfl
theorem ws_7 : Cond.selects RX6 yX6_setOf yX6_setOf ∈ gW := gW_s (List.mem_of_getElem? (i := 7) rfl) rfl
theorem ws_8 : Cond.selects RX6 yX6_memberOf yX6_memberOf ∈ gW := gW_s (List.mem_of_getElem? (i := 8) rfl) rfl
theorem ws_9 : Cond.selects RX6 yX6_stationOf yX6_stationOf ∈ gW := gW_s (List.mem_of_getElem? (i := 9) rfl) rfl
theorem ws_10 : Cond.selects RX6 yX6_logOf yX6_logOf ∈ gW := gW_s (List.mem_of_getElem? (i := 10) rfl) rfl
theorem ws_11 : Cond.selects RX0 yX0_writeLines yX0_writeLines ∈ gW := gW_s (List.mem_of_getElem? (i := 11) rfl) rfl
theorem ws_12 : Cond.selects RX0 yX0_writeLine yX0_writeLine ∈ gW := gW_s (List.mem_of_getElem? (i := 12) rfl) rfl
theorem ws_13 : Cond.selects RX0 yX0_wearCrystals yX0_wearCrystals ∈ gW := gW_s (List.mem_of_getElem? (i := 13) rfl) rfl
theorem ws_14 : Cond.selects RX0 yX0_answerLetters yX0_answerLetters ∈ gW := gW_s (List.mem_of_getElem? (i := 14) rfl) rfl
theorem ws_15 : Cond.selects RX0 yX0_answer yX0_answer ∈ gW := gW_s (List.mem_of_getElem? (i := 15) rfl) rfl
theorem ws_16 : Cond.selects RX0 yX0_leadersOf yX0_leadersOf ∈ gW := gW_s (List.mem_of_getElem? (i := 16) rfl) rfl
theorem ws_17 : Cond.selects RX0 yX0_leads yX0_leads ∈ gW := gW_s (List.mem_of_getElem? (i := 17) rfl) rfl
theorem ws_18 : Cond.selects RX8 yX8_no yX8_no ∈ gW := gW_s (List.mem_of_getElem? (i := 18) rfl) rfl
theorem ws_19 : Cond.selects RX8 yX8_isMember yX8_isMember ∈ gW := gW_s (List.mem_of_getElem? (i := 19) rfl) rfl
theorem ws_20 : Cond.selects RX8 yX8_isStation yX8_isStation ∈ gW := gW_s (List.mem_of_getElem? (i := 20) rfl) rfl
theorem ws_21 : Cond.selects RX8 yX8_stationTold yX8_stationTold ∈ gW := gW_s (List.mem_of_getElem? (i := 21) rfl) rfl
theorem ws_22 : Cond.selects RX8 yX8_onAir yX8_onAir ∈ gW := gW_s (List.mem_of_getElem? (i := 22) rfl) rfl
theorem ws_23 : Cond.selects RX8 yX8_fading yX8_fading ∈ gW := gW_s (List.mem_of_getElem? (i := 23) rfl) rfl
theorem ws_24 : Cond.selects RX8 yX8_cards yX8_cards ∈ gW := gW_s (List.mem_of_getElem? (i := 24) rfl) rfl
theorem ws_25 : Cond.selects RX8 yX8_memberTold yX8_memberTold ∈ gW := gW_s (List.mem_of_getElem? (i := 25) rfl) rfl
theorem ws_26 : Cond.selects RX8 yX8_held yX8_held ∈ gW := gW_s (List.mem_of_getElem? (i := 26) rfl) rfl
theorem ws_27 : Cond.selects RX8 yX8_reach yX8_reach ∈ gW := gW_s (List.mem_of_getElem? (i := 27) rfl) rfl
theorem ws_28 : Cond.selects RX8 yX8_heard yX8_heard ∈ gW := gW_s (List.mem_of_getElem? (i := 28) rfl) rfl
theorem ws_29 : Cond.selects RX8 yX8_isLine yX8_isLine ∈ gW := gW_s (List.mem_of_getElem? (i := 29) rfl) rfl
theorem ws_30 : Cond.selects RX7 yX7_hear yX7_hear ∈ gW := gW_s (List.mem_of_getElem? (i := 30) rfl) rfl
theorem ws_31 : Cond.selects RX7 yX7_isInDay yX7_isInDay ∈ gW := gW_s (List.mem_of_getElem? (i := 31) rfl) rfl
theorem ws_32 : Cond.selects RX7 yX7_answer yX7_answer ∈ gW := gW_s (List.mem_of_getElem? (i := 32) rfl) rfl
theorem ws_33 : Cond.selects RX8 yX8_counted yX8_counted ∈ gW := gW_s (List.mem_of_getElem? (i := 33) rfl) rfl
theorem ws_34 : Cond.selects RX8 yX8_leads yX8_leads ∈ gW := gW_s (List.mem_of_getElem? (i := 34) rfl) rfl
theorem ws_35 : Cond.selects RX7 yX7_copy yX7_copy ∈ gW := gW_s (List.mem_of_getElem? (i := 35) rfl) rfl
theorem hinX0 : ∀ w ∈ u_ws RX0 TX0 7, w ∈ gW := by
  intro w h
  obtain ⟨k, hk, rfl⟩ := List.mem_map.mp h
  have hk := List.mem_range.mp hk
  match k, hk with
  | 0, _ => exact w1_151
  | 1, _ => exact w1_153
  | 2, _ => exact w1_155
  | 3, _ => exact w1_157
  | 4, _ => exact w1_159
  | 5, _ => exact w1_161
  | 6, _ => exact w1_163
  | k + 7, h => exact absurd h (by omega)
theorem hinX1 : ∀ w ∈ u_ws RX1 TX1 6, w ∈ gW := by
  intro w h
  obtain ⟨k, hk, rfl⟩ := List.mem_map.mp h
  have hk := List.mem_range.mp hk
  match k, hk with
  | 0, _ => exact w1_65
  | 1, _ => exact w1_67
  | 2, _ => exact w1_69
  | 3, _ => exact w1_71
  | 4, _ => exact w1_73
  | 5, _ => exact w1_75
  | k + 6, h => exact absurd h (by omega)
theorem hinX2 : ∀ w ∈ u_ws RX2 TX2 4, w ∈ gW := by
  intro w h
  obtain ⟨k, hk, rfl⟩ := List.mem_map.mp h
  have hk := List.mem_range.mp hk
  match k, hk with
  | 0, _ => exact w1_131
  | 1, _ => exact w1_133
  | 2, _ => exact w1_135
  | 3, _ => exact w1_137
  | k + 4, h => exact absurd h (by omega)
theorem hinX3 : ∀ w ∈ u_ws RX3 TX3 3, w ∈ gW := by
  intro w h
  obtain ⟨k, hk, rfl⟩ := List.mem_map.mp h
  have hk := List.mem_range.mp hk
  match k, hk with
  | 0, _ => exact w1_111
  | 1, _ => exact w1_113
  | 2, _ => exact w1_115
  | k + 3, h => exact absurd h (by omega)
theorem hinX4 : ∀ w ∈ u_ws RX4 TX4 6, w ∈ gW := by
  intro w h
  obtain ⟨k, hk, rfl⟩ := List.mem_map.mp h
  have hk := List.mem_range.mp hk
  match k, hk with
  | 0, _ => exact w2_155
  | 1, _ => exact w2_157
  | 2, _ => exact w2_159
  | 3, _ => exact w2_161
  | 4, _ => exact w2_163
  | 5, _ => exact w2_165
  | k + 6, h => exact absurd h (by omega)
theorem hinX5 : ∀ w ∈ u_ws RX5 TX5 3, w ∈ gW := by
  intro w h
  obtain ⟨k, hk, rfl⟩ := List.mem_map.mp h
  have hk := List.mem_range.mp hk
  match k, hk with
  | 0, _ => exact w1_94
  | 1, _ => exact w1_96
  | 2, _ => exact w1_98
  | k + 3, h => exact absurd h (by omega)
theorem hinX6 : ∀ w ∈ u_ws RX6 TX6 3, w ∈ gW := by
  intro w h
  obtain ⟨k, hk, rfl⟩ := List.mem_map.mp h
  have hk := List.mem_range.mp hk
  match k, hk with
  | 0, _ => exact w1_171
  | 1, _ => exact w1_173
  | 2, _ => exact w1_175
  | k + 3, h => exact absurd h (by omega)
theorem hinX7 : ∀ w ∈ u_ws RX7 TX7 9, w ∈ gW := by
  intro w h
  obtain ⟨k, hk, rfl⟩ := List.mem_map.mp h
  have hk := List.mem_range.mp hk
  match k, hk with
  | 0, _ => exact w4_56
  | 1, _ => exact w4_58
  | 2, _ => exact w4_60
  | 3, _ => exact w4_62
  | 4, _ => exact w4_64
  | 5, _ => exact w4_66
  | 6, _ => exact w4_68
  | 7, _ => exact w4_70
  | 8, _ => exact w4_72
  | k + 9, h => exact absurd h (by omega)
theorem hinX8 : ∀ w ∈ u_ws RX8 TX8 10, w ∈ gW := by
  intro w h
  obtain ⟨k, hk, rfl⟩ := List.mem_map.mp h
  have hk := List.mem_range.mp hk
  match k, hk with
  | 0, _ => exact w4_89
  | 1, _ => exact w4_91
  | 2, _ => exact w4_93
  | 3, _ => exact w4_95
  | 4, _ => exact w4_97
  | 5, _ => exact w4_99
  | 6, _ => exact w4_101
  | 7, _ => exact w4_103
  | 8, _ => exact w4_105
  | 9, _ => exact w4_107
  | k + 10, h => exact absurd h (by omega)
/-- the links between nest mates -/
def nW : List Cond := [Cond.methodLinkNest RX3 11 yX1_init RX6, Cond.fieldLinkNest RX6 77 "CrystalClub$CrystalSet" "turns" "I" RX6, Cond.fieldLinkNest RX0 84 "CrystalClub$CrystalSet" "turns" "I" RX6, Cond.fieldLinkNest RX6 74 "CrystalClub$CrystalSet" "dial" "I" RX6, Cond.fieldLinkNest RX0 197 "CrystalClub$CrystalSet" "dial" "I" RX6, Cond.fieldLinkNest RX3 30 "CrystalClub$CrystalSet" "aerial" "I" RX6, Cond.fieldLinkNest RX0 200 "CrystalClub$CrystalSet" "aerial" "I" RX6, Cond.fieldLinkNest RX3 34 "CrystalClub$CrystalSet" "crystal" "I" RX6, Cond.fieldLinkNest RX6 96 "CrystalClub$CrystalSet" "crystal" "I" RX6, Cond.fieldLinkNest RX0 203 "CrystalClub$CrystalSet" "crystal" "I" RX6, Cond.fieldLinkNest RX0 206 "CrystalClub$CrystalSet" "tuned" "I" RX6, Cond.fieldLinkNest RX0 209 "CrystalClub$CrystalSet" "width" "I" RX6, Cond.fieldLinkNest RX0 254 "CrystalClub$Table" "columns" "I" RX6, Cond.fieldLinkNest RX3 41 "CrystalClub$Table" "size" "I" RX6, Cond.fieldLinkNest RX0 140 "CrystalClub$Table" "size" "I" RX6, Cond.fieldLinkNest RX6 226 "CrystalClub$Table" "size" "I" RX6, Cond.fieldLinkNest RX0 125 "CrystalClub$Member" "set" "LCrystalClub$CrystalSet;" RX6, Cond.fieldLinkNest RX6 220 "CrystalClub$Member" "set" "LCrystalClub$CrystalSet;" RX6, Cond.fieldLinkNest RX0 114 "CrystalClub$Member" "lines" "LCrystalClub$Table;" RX6, Cond.fieldLinkNest RX6 223 "CrystalClub$Member" "lines" "LCrystalClub$Table;" RX6, Cond.fieldLinkNest RX6 90 "CrystalClub$Member" "listens" "Z" RX6, Cond.fieldLinkNest RX0 110 "CrystalClub$Member" "listens" "Z" RX6, Cond.methodLinkNest RX0 35 yX2_init RX6, Cond.fieldLinkNest RX0 98 "CrystalClub$Hearing" "strength" "I" RX6, Cond.fieldLinkNest RX6 150 "CrystalClub$Club" "letters" "LCrystalClub$Table;" RX6, Cond.fieldLinkNest RX6 39 "CrystalClub$Club" "stationCount" "I" RX6, Cond.fieldLinkNest RX6 59 "CrystalClub$Club" "memberCount" "I" RX6, Cond.fieldLinkNest RX6 112 "CrystalClub$Club" "hour" "I" RX6, Cond.methodLinkNest RX6 21 yX1_init RX6, Cond.fieldLinkNest RX1 40 "CrystalClub$Station" "frequency" "I" RX6, Cond.fieldLinkNest RX0 185 "CrystalClub$Station" "frequency" "I" RX6, Cond.fieldLinkNest RX1 48 "CrystalClub$Station" "power" "I" RX6, Cond.fieldLinkNest RX0 188 "CrystalClub$Station" "power" "I" RX6, Cond.fieldLinkNest RX1 55 "CrystalClub$Station" "far" "I" RX6, Cond.fieldLinkNest RX0 166 "CrystalClub$Station" "far" "I" RX6, Cond.methodLinkNest RX1 17 yX6_quotient RX6, Cond.methodLinkNest RX1 45 yX6_distance RX6, Cond.methodLinkNest RX8 27 yX7_init RX8, Cond.fieldLinkNest RX8 98 "CrystalClubModel$State" "hour" "I" RX8, Cond.fieldLinkNest RX8 129 "CrystalClubModel$State" "letters" "I" RX8, Cond.fieldLinkNest RX8 135 "CrystalClubModel$State" "written" "I" RX8, Cond.fieldLinkNest RX8 147 "CrystalClubModel$State" "answered" "I" RX8, Cond.fieldLinkNest RX8 91 "CrystalClubModel$State" "crystal" "[I" RX8, Cond.fieldLinkNest RX8 55 "CrystalClubModel$State" "lines" "[I" RX8, Cond.fieldLinkNest RX8 126 "CrystalClubModel$State" "log" "[I" RX8, Cond.fieldLinkNest RX8 132 "CrystalClubModel$State" "mail" "[I" RX8, Cond.fieldLinkNest RX7 55 "CrystalClubModel" "members" "I" RX8, Cond.fieldLinkNest RX7 61 "CrystalClubModel" "turns" "[I" RX8, Cond.fieldLinkNest RX7 64 "CrystalClubModel" "stand" "[I" RX8, Cond.fieldLinkNest RX7 58 "CrystalClubModel" "ears" "[I" RX8, Cond.methodLinkNest RX7 51 yX8_onAir RX8, Cond.methodLinkNest RX7 67 yX8_heard RX8, Cond.methodLinkNest RX7 75 yX8_reach RX8]
def g_isN (w : Cond) : Bool := match w with
  | .fieldLinkNest .. => true
  | .methodLinkNest .. => true
  | _ => false
theorem nW_isN : ∀ w ∈ nW, g_isN w = true := fun w h => List.all_eq_true.mp (show nW.all g_isN = true from rfl) w h
theorem nW_tbl : ∀ w ∈ nW, w ∈ lw_tbl := by
  intro w h
  simp only [nW, List.mem_cons, List.not_mem_nil, or_false] at h
  rcases h with rfl | rfl | rfl | rfl | rfl | rfl | rfl | rfl | rfl | rfl | rfl | rfl | rfl | rfl | rfl | rfl | rfl | rfl | rfl | rfl | rfl | rfl | rfl | rfl | rfl | rfl | rfl | rfl | rfl | rfl | rfl | rfl | rfl | rfl | rfl | rfl | rfl | rfl | rfl | rfl | rfl | rfl | rfl | rfl | rfl | rfl | rfl | rfl | rfl | rfl | rfl | rfl | rfl
  · exact List.mem_append_right _ (List.mem_append_left _ (List.mem_of_getElem? (i := 44) rfl))
  · exact List.mem_append_right _ (List.mem_append_left _ (List.mem_of_getElem? (i := 49) rfl))
  · exact List.mem_append_right _ (List.mem_append_left _ (List.mem_of_getElem? (i := 50) rfl))
  · exact List.mem_append_right _ (List.mem_append_left _ (List.mem_of_getElem? (i := 52) rfl))
  · exact List.mem_append_right _ (List.mem_append_left _ (List.mem_of_getElem? (i := 53) rfl))
  · exact List.mem_append_right _ (List.mem_append_left _ (List.mem_of_getElem? (i := 54) rfl))
  · exact List.mem_append_right _ (List.mem_append_left _ (List.mem_of_getElem? (i := 56) rfl))
  · exact List.mem_append_right _ (List.mem_append_left _ (List.mem_of_getElem? (i := 57) rfl))
  · exact List.mem_append_right _ (List.mem_append_left _ (List.mem_of_getElem? (i := 59) rfl))
  · exact List.mem_append_right _ (List.mem_append_left _ (List.mem_of_getElem? (i := 60) rfl))
  · exact List.mem_append_right _ (List.mem_append_left _ (List.mem_of_getElem? (i := 62) rfl))
  · exact List.mem_append_right _ (List.mem_append_left _ (List.mem_of_getElem? (i := 64) rfl))
  · exact List.mem_append_right _ (List.mem_append_left _ (List.mem_of_getElem? (i := 88) rfl))
  · exact List.mem_append_right _ (List.mem_append_left _ (List.mem_of_getElem? (i := 91) rfl))
  · exact List.mem_append_right _ (List.mem_append_left _ (List.mem_of_getElem? (i := 92) rfl))
  · exact List.mem_append_right _ (List.mem_append_left _ (List.mem_of_getElem? (i := 93) rfl))
  · exact List.mem_append_right _ (List.mem_append_left _ (List.mem_of_getElem? (i := 103) rfl))
  · exact List.mem_append_right _ (List.mem_append_left _ (List.mem_of_getElem? (i := 104) rfl))
  · exact List.mem_append_right _ (List.mem_append_left _ (List.mem_of_getElem? (i := 106) rfl))
  · exact List.mem_append_right _ (List.mem_append_left _ (List.mem_of_getElem? (i := 107) rfl))
  · exact List.mem_append_right _ (List.mem_append_left _ (List.mem_of_getElem? (i := 109) rfl))
  · exact List.mem_append_right _ (List.mem_append_left _ (List.mem_of_getElem? (i := 110) rfl))
  · exact List.mem_append_right _ (List.mem_append_left _ (List.mem_of_getElem? (i := 122) rfl))
  · exact List.mem_append_right _ (List.mem_append_left _ (List.mem_of_getElem? (i := 129) rfl))
  · exact List.mem_append_right _ (List.mem_append_left _ (List.mem_of_getElem? (i := 143) rfl))
  · exact List.mem_append_right _ (List.mem_append_left _ (List.mem_of_getElem? (i := 146) rfl))
  · exact List.mem_append_right _ (List.mem_append_left _ (List.mem_of_getElem? (i := 148) rfl))
  · exact List.mem_append_right _ (List.mem_append_left _ (List.mem_of_getElem? (i := 150) rfl))
  · exact List.mem_append_right _ (List.mem_append_left _ (List.mem_of_getElem? (i := 167) rfl))
  · exact List.mem_append_right _ (List.mem_append_right _ (List.mem_append_left _ (List.mem_of_getElem? (i := 144) rfl)))
  · exact List.mem_append_right _ (List.mem_append_right _ (List.mem_append_left _ (List.mem_of_getElem? (i := 145) rfl)))
  · exact List.mem_append_right _ (List.mem_append_right _ (List.mem_append_left _ (List.mem_of_getElem? (i := 147) rfl)))
  · exact List.mem_append_right _ (List.mem_append_right _ (List.mem_append_left _ (List.mem_of_getElem? (i := 148) rfl)))
  · exact List.mem_append_right _ (List.mem_append_right _ (List.mem_append_left _ (List.mem_of_getElem? (i := 150) rfl)))
  · exact List.mem_append_right _ (List.mem_append_right _ (List.mem_append_left _ (List.mem_of_getElem? (i := 151) rfl)))
  · exact List.mem_append_right _ (List.mem_append_right _ (List.mem_append_left _ (List.mem_of_getElem? (i := 194) rfl)))
  · exact List.mem_append_right _ (List.mem_append_right _ (List.mem_append_right _ (List.mem_append_left _ (List.mem_of_getElem? (i := 53) rfl))))
  · exact List.mem_append_right _ (List.mem_append_right _ (List.mem_append_right _ (List.mem_append_right _ (List.mem_append_left _ (List.mem_of_getElem? (i := 35) rfl)))))
  · exact List.mem_append_right _ (List.mem_append_right _ (List.mem_append_right _ (List.mem_append_right _ (List.mem_append_left _ (List.mem_of_getElem? (i := 40) rfl)))))
  · exact List.mem_append_right _ (List.mem_append_right _ (List.mem_append_right _ (List.mem_append_right _ (List.mem_append_left _ (List.mem_of_getElem? (i := 42) rfl)))))
  · exact List.mem_append_right _ (List.mem_append_right _ (List.mem_append_right _ (List.mem_append_right _ (List.mem_append_left _ (List.mem_of_getElem? (i := 44) rfl)))))
  · exact List.mem_append_right _ (List.mem_append_right _ (List.mem_append_right _ (List.mem_append_right _ (List.mem_append_left _ (List.mem_of_getElem? (i := 46) rfl)))))
  · exact List.mem_append_right _ (List.mem_append_right _ (List.mem_append_right _ (List.mem_append_right _ (List.mem_append_left _ (List.mem_of_getElem? (i := 48) rfl)))))
  · exact List.mem_append_right _ (List.mem_append_right _ (List.mem_append_right _ (List.mem_append_right _ (List.mem_append_left _ (List.mem_of_getElem? (i := 50) rfl)))))
  · exact List.mem_append_right _ (List.mem_append_right _ (List.mem_append_right _ (List.mem_append_right _ (List.mem_append_left _ (List.mem_of_getElem? (i := 52) rfl)))))
  · exact List.mem_append_right _ (List.mem_append_right _ (List.mem_append_right _ (List.mem_append_right _ (List.mem_append_left _ (List.mem_of_getElem? (i := 54) rfl)))))
  · exact List.mem_append_right _ (List.mem_append_right _ (List.mem_append_right _ (List.mem_append_right _ (List.mem_append_left _ (List.mem_of_getElem? (i := 77) rfl)))))
  · exact List.mem_append_right _ (List.mem_append_right _ (List.mem_append_right _ (List.mem_append_right _ (List.mem_append_left _ (List.mem_of_getElem? (i := 81) rfl)))))
  · exact List.mem_append_right _ (List.mem_append_right _ (List.mem_append_right _ (List.mem_append_right _ (List.mem_append_left _ (List.mem_of_getElem? (i := 83) rfl)))))
  · exact List.mem_append_right _ (List.mem_append_right _ (List.mem_append_right _ (List.mem_append_right _ (List.mem_append_left _ (List.mem_of_getElem? (i := 86) rfl)))))
  · exact List.mem_append_right _ (List.mem_append_right _ (List.mem_append_right _ (List.mem_append_right _ (List.mem_append_right _ (List.mem_of_getElem? (i := 3) rfl)))))
  · exact List.mem_append_right _ (List.mem_append_right _ (List.mem_append_right _ (List.mem_append_right _ (List.mem_append_right _ (List.mem_of_getElem? (i := 4) rfl)))))
  · exact List.mem_append_right _ (List.mem_append_right _ (List.mem_append_right _ (List.mem_append_right _ (List.mem_append_right _ (List.mem_of_getElem? (i := 9) rfl)))))
theorem wn_0 : Cond.methodLinkNest RX3 11 yX1_init RX6 ∈ nW := List.mem_of_getElem? (i := 0) rfl
theorem wn_1 : Cond.fieldLinkNest RX6 77 "CrystalClub$CrystalSet" "turns" "I" RX6 ∈ nW := List.mem_of_getElem? (i := 1) rfl
theorem wn_2 : Cond.fieldLinkNest RX0 84 "CrystalClub$CrystalSet" "turns" "I" RX6 ∈ nW := List.mem_of_getElem? (i := 2) rfl
theorem wn_3 : Cond.fieldLinkNest RX6 74 "CrystalClub$CrystalSet" "dial" "I" RX6 ∈ nW := List.mem_of_getElem? (i := 3) rfl
theorem wn_4 : Cond.fieldLinkNest RX0 197 "CrystalClub$CrystalSet" "dial" "I" RX6 ∈ nW := List.mem_of_getElem? (i := 4) rfl
theorem wn_5 : Cond.fieldLinkNest RX3 30 "CrystalClub$CrystalSet" "aerial" "I" RX6 ∈ nW := List.mem_of_getElem? (i := 5) rfl
theorem wn_6 : Cond.fieldLinkNest RX0 200 "CrystalClub$CrystalSet" "aerial" "I" RX6 ∈ nW := List.mem_of_getElem? (i := 6) rfl
theorem wn_7 : Cond.fieldLinkNest RX3 34 "CrystalClub$CrystalSet" "crystal" "I" RX6 ∈ nW := List.mem_of_getElem? (i := 7) rfl
theorem wn_8 : Cond.fieldLinkNest RX6 96 "CrystalClub$CrystalSet" "crystal" "I" RX6 ∈ nW := List.mem_of_getElem? (i := 8) rfl
theorem wn_9 : Cond.fieldLinkNest RX0 203 "CrystalClub$CrystalSet" "crystal" "I" RX6 ∈ nW := List.mem_of_getElem? (i := 9) rfl
theorem wn_10 : Cond.fieldLinkNest RX0 206 "CrystalClub$CrystalSet" "tuned" "I" RX6 ∈ nW := List.mem_of_getElem? (i := 10) rfl
theorem wn_11 : Cond.fieldLinkNest RX0 209 "CrystalClub$CrystalSet" "width" "I" RX6 ∈ nW := List.mem_of_getElem? (i := 11) rfl
theorem wn_12 : Cond.fieldLinkNest RX0 254 "CrystalClub$Table" "columns" "I" RX6 ∈ nW := List.mem_of_getElem? (i := 12) rfl
theorem wn_13 : Cond.fieldLinkNest RX3 41 "CrystalClub$Table" "size" "I" RX6 ∈ nW := List.mem_of_getElem? (i := 13) rfl
theorem wn_14 : Cond.fieldLinkNest RX0 140 "CrystalClub$Table" "size" "I" RX6 ∈ nW := List.mem_of_getElem? (i := 14) rfl
theorem wn_15 : Cond.fieldLinkNest RX6 226 "CrystalClub$Table" "size" "I" RX6 ∈ nW := List.mem_of_getElem? (i := 15) rfl
theorem wn_16 : Cond.fieldLinkNest RX0 125 "CrystalClub$Member" "set" "LCrystalClub$CrystalSet;" RX6 ∈ nW := List.mem_of_getElem? (i := 16) rfl
theorem wn_17 : Cond.fieldLinkNest RX6 220 "CrystalClub$Member" "set" "LCrystalClub$CrystalSet;" RX6 ∈ nW := List.mem_of_getElem? (i := 17) rfl
theorem wn_18 : Cond.fieldLinkNest RX0 114 "CrystalClub$Member" "lines" "LCrystalClub$Table;" RX6 ∈ nW := List.mem_of_getElem? (i := 18) rfl
theorem wn_19 : Cond.fieldLinkNest RX6 223 "CrystalClub$Member" "lines" "LCrystalClub$Table;" RX6 ∈ nW := List.mem_of_getElem? (i := 19) rfl
theorem wn_20 : Cond.fieldLinkNest RX6 90 "CrystalClub$Member" "listens" "Z" RX6 ∈ nW := List.mem_of_getElem? (i := 20) rfl
theorem wn_21 : Cond.fieldLinkNest RX0 110 "CrystalClub$Member" "listens" "Z" RX6 ∈ nW := List.mem_of_getElem? (i := 21) rfl
theorem wn_22 : Cond.methodLinkNest RX0 35 yX2_init RX6 ∈ nW := List.mem_of_getElem? (i := 22) rfl
theorem wn_23 : Cond.fieldLinkNest RX0 98 "CrystalClub$Hearing" "strength" "I" RX6 ∈ nW := List.mem_of_getElem? (i := 23) rfl
theorem wn_24 : Cond.fieldLinkNest RX6 150 "CrystalClub$Club" "letters" "LCrystalClub$Table;" RX6 ∈ nW := List.mem_of_getElem? (i := 24) rfl
theorem wn_25 : Cond.fieldLinkNest RX6 39 "CrystalClub$Club" "stationCount" "I" RX6 ∈ nW := List.mem_of_getElem? (i := 25) rfl
theorem wn_26 : Cond.fieldLinkNest RX6 59 "CrystalClub$Club" "memberCount" "I" RX6 ∈ nW := List.mem_of_getElem? (i := 26) rfl
theorem wn_27 : Cond.fieldLinkNest RX6 112 "CrystalClub$Club" "hour" "I" RX6 ∈ nW := List.mem_of_getElem? (i := 27) rfl
theorem wn_28 : Cond.methodLinkNest RX6 21 yX1_init RX6 ∈ nW := List.mem_of_getElem? (i := 28) rfl
theorem wn_29 : Cond.fieldLinkNest RX1 40 "CrystalClub$Station" "frequency" "I" RX6 ∈ nW := List.mem_of_getElem? (i := 29) rfl
theorem wn_30 : Cond.fieldLinkNest RX0 185 "CrystalClub$Station" "frequency" "I" RX6 ∈ nW := List.mem_of_getElem? (i := 30) rfl
theorem wn_31 : Cond.fieldLinkNest RX1 48 "CrystalClub$Station" "power" "I" RX6 ∈ nW := List.mem_of_getElem? (i := 31) rfl
theorem wn_32 : Cond.fieldLinkNest RX0 188 "CrystalClub$Station" "power" "I" RX6 ∈ nW := List.mem_of_getElem? (i := 32) rfl
theorem wn_33 : Cond.fieldLinkNest RX1 55 "CrystalClub$Station" "far" "I" RX6 ∈ nW := List.mem_of_getElem? (i := 33) rfl
theorem wn_34 : Cond.fieldLinkNest RX0 166 "CrystalClub$Station" "far" "I" RX6 ∈ nW := List.mem_of_getElem? (i := 34) rfl
theorem wn_35 : Cond.methodLinkNest RX1 17 yX6_quotient RX6 ∈ nW := List.mem_of_getElem? (i := 35) rfl
theorem wn_36 : Cond.methodLinkNest RX1 45 yX6_distance RX6 ∈ nW := List.mem_of_getElem? (i := 36) rfl
theorem wn_37 : Cond.methodLinkNest RX8 27 yX7_init RX8 ∈ nW := List.mem_of_getElem? (i := 37) rfl
theorem wn_38 : Cond.fieldLinkNest RX8 98 "CrystalClubModel$State" "hour" "I" RX8 ∈ nW := List.mem_of_getElem? (i := 38) rfl
theorem wn_39 : Cond.fieldLinkNest RX8 129 "CrystalClubModel$State" "letters" "I" RX8 ∈ nW := List.mem_of_getElem? (i := 39) rfl
theorem wn_40 : Cond.fieldLinkNest RX8 135 "CrystalClubModel$State" "written" "I" RX8 ∈ nW := List.mem_of_getElem? (i := 40) rfl
theorem wn_41 : Cond.fieldLinkNest RX8 147 "CrystalClubModel$State" "answered" "I" RX8 ∈ nW := List.mem_of_getElem? (i := 41) rfl
theorem wn_42 : Cond.fieldLinkNest RX8 91 "CrystalClubModel$State" "crystal" "[I" RX8 ∈ nW := List.mem_of_getElem? (i := 42) rfl
theorem wn_43 : Cond.fieldLinkNest RX8 55 "CrystalClubModel$State" "lines" "[I" RX8 ∈ nW := List.mem_of_getElem? (i := 43) rfl
theorem wn_44 : Cond.fieldLinkNest RX8 126 "CrystalClubModel$State" "log" "[I" RX8 ∈ nW := List.mem_of_getElem? (i := 44) rfl
theorem wn_45 : Cond.fieldLinkNest RX8 132 "CrystalClubModel$State" "mail" "[I" RX8 ∈ nW := List.mem_of_getElem? (i := 45) rfl
theorem wn_46 : Cond.fieldLinkNest RX7 55 "CrystalClubModel" "members" "I" RX8 ∈ nW := List.mem_of_getElem? (i := 46) rfl
theorem wn_47 : Cond.fieldLinkNest RX7 61 "CrystalClubModel" "turns" "[I" RX8 ∈ nW := List.mem_of_getElem? (i := 47) rfl
theorem wn_48 : Cond.fieldLinkNest RX7 64 "CrystalClubModel" "stand" "[I" RX8 ∈ nW := List.mem_of_getElem? (i := 48) rfl
theorem wn_49 : Cond.fieldLinkNest RX7 58 "CrystalClubModel" "ears" "[I" RX8 ∈ nW := List.mem_of_getElem? (i := 49) rfl
theorem wn_50 : Cond.methodLinkNest RX7 51 yX8_onAir RX8 ∈ nW := List.mem_of_getElem? (i := 50) rfl
theorem wn_51 : Cond.methodLinkNest RX7 67 yX8_heard RX8 ∈ nW := List.mem_of_getElem? (i := 51) rfl
theorem wn_52 : Cond.methodLinkNest RX7 75 yX8_reach RX8 ∈ nW := List.mem_of_getElem? (i := 52) rfl
end
section
/-! the walk's own rows: a setting gF, a world gG, a contract gM; calls and field rows over them -/
abbrev St : Type := Nat → Nat → Nat → Int32
def mu (M : St) (f i j : Nat) (v : Int32) : St := fun g => if g = f then (fun a => if a = i then upd (M g a) j v else M g a) else M g
abbrev gZ : Type := va_G × ClassId × ClassId × ClassId
abbrev gT (Z : gZ) : List (ClassId × FieldType) := [(Z.2.1, .int), (Z.2.2.1, .object RX3), (Z.2.2.2, .object RX4)]
def gK (Z : gZ) (U : State) : Prop := va_K Z.1 vwCl (gT Z) U ∧ ∀ w ∈ nW, va_Nw w U
theorem g_nw {s U : State} {w : Cond} (hW : s.WarmedH U.vm) (hn : g_isN w = true) (h : va_Nw w s) : va_Nw w U := by
  cases w <;> first | exact va_Nw.warmF hW h | exact va_Nw.warmM hW h | (simp [g_isN] at hn)
theorem g_nwS {s U : State} {w : Cond} (hv : s.vm = U.vm) (hn : g_isN w = true) (h : va_Nw w s) : va_Nw w U := by
  cases w <;> first | exact va_Nw.same rfl hv h | (simp [g_isN] at hn)
theorem gK.warm {Z : gZ} {s U : State} (hW : s.WarmedH U.vm) (h : gK Z s) : gK Z U := ⟨va_K.moved hW.alike h.1, fun w hw => g_nw hW (nW_isN w hw) (h.2 w hw)⟩
theorem gK.call {Z : gZ} {U : State} {g : JFrame} {mk : MethodId} {a : Array Value} (h : gK Z U) : gK Z (U.calling g mk a) := ⟨va_K.moved (u := U) (U := U.calling g mk a) (Vm.Alike.refl U.vm) h.1, fun w hw => g_nwS (s := U) (U := U.calling g mk a) rfl (nW_isN w hw) (h.2 w hw)⟩
def gB (Z : gZ) (ws : va_W) (sz : Nat) (U : State) : Prop := U.heap.size = sz ∧ va_P Z.1 vwCl ws U.heap ∧ gK Z U ∧ va_D (fun _ => True) ws
def gQ (Z : gZ) (A : Nat → Prop) (v : Option Value) (ws : va_W) : Array Value → State → Outcome → State → Prop := fun _ st oc t => (oc = .returned v ∧ va_P Z.1 vwCl ws t.heap ∧ va_D A ws) ∧ va_F A st t
/-- from any heap that holds ws: the method returns v, the heap holds ws', nothing else changed; mc cells of ms slots are new -/
def gM (Z : gZ) (l : Launch) (y : MethodName) (bytes : ByteArray) (maxL : Nat) (ret : Option FieldType) (rm : Room) (av : List Value) (ws : va_W) (v : Option Value) (ws' : va_W) (mc ms : Nat) : Prop := ∀ sz : Nat, Met l y (Cond.code y bytes maxL ret :: gW) rm (va_Pc av (gB Z ws sz)) (gQ Z (va_A ws sz) v ws') mc ms (va_A ws sz)
theorem gB_blind {Z : gZ} {av : List Value} {ws : va_W} {sz : Nat} : FrameBlind (va_Pc av (gB Z ws sz)) := fun _ _ _ _ h => ⟨h.1, h.2.1, h.2.2.1, h.2.2.2.1.call, h.2.2.2.2⟩
def gF (Z : gZ) (p : Program) (m : MethodId) (s : State) (args : Array Value) (meth : Method) (c : Code) (cc : ByteArray) (nL : Nat) (own : String) (ret : Option FieldType) : Prop :=
  p.tables.exec = Jvm.exec ∧ c.code = cc ∧ c.maxLocals = nL ∧ s.vm.findClass own = some m.cls ∧ (∀ w ∈ gW, w.before args s = true) ∧ gK Z s ∧ meth.sig.returnType = ret ∧ meth.locks = false
def gG (Z : gZ) (A : Nat → Prop) (s : State) (ws : va_W) (H : Heap) (locs : List Loc) : Prop := va_P Z.1 vwCl ws H ∧ va_D A ws ∧ va_S A s.heap H locs ∧ ∀ q : Nat, s.heap.size ≤ q → A q
theorem gM_of {Z : gZ} {l : Launch} {y : MethodName} {bytes : ByteArray} {maxL : Nat} {ret : Option FieldType} {rm : Room} {av : List Value} {ws : va_W} {v : Option Value} {ws' : va_W} {mc ms : Nat} (hy : plainName y.cls = true) (hav : (lg_sl av).length ≤ maxL)
    (body : ∀ (p : Program) (e : Env) (s : State) (m : MethodId) (args : Array Value) (below : List Frame) (meth : Method) (c : Code) (A : Nat → Prop), gF Z p m s args meth c bytes maxL y.cls ret → meth.name = y.name → gG Z A s ws s.heap [] → ∀ ls : Array Slot, lv_has ls maxL (lv_args 0 av) →
      W p l e rm s m args below meth c s.heap [] 0 0 (MQ below (gQ Z A v ws') args s mc ms A) (F0 m 0 ls [])) : gM Z l y bytes maxL ret rm av ws v ws' mc ms := by
  intro sz
  refine Met.ofW (cc := bytes) (maxL := maxL) (ret := ret) hy rfl ?_
  intro p e s m args below meth c s₁ B hml hv
  obtain ⟨rfl, hsz, hP, hK, hD0⟩ := hv
  have hts := atoms_spec (ws := Cond.code y bytes maxL ret :: gW) B.pre
  subst hsz
  rw [lg_entry_eq]
  exact body p e s m _ below meth c (va_A ws s.heap.size) ⟨B.exec, B.bytes, hml, findClass_of_methodNamed B.named, fun w h => hts w (List.mem_cons_of_mem _ h), hK, B.returns, B.notSynchronized⟩ (name_of_methodNamed B.named B.method).1 ⟨hP, hD0.self, va_S.rf, fun q h => Or.inr h⟩ _ (lv_entry av hav)
/-- what a call needs of the tables, by method -/
def gY (y : MethodName) (bytes : ByteArray) (maxL : Nat) (ret : Option FieldType) (n : Nat) : Prop :=
  Cond.code y bytes maxL ret ∈ gW ∧ Cond.initialized y.cls ∈ gW ∧ (y.cls ≠ "java/lang/invoke/MethodHandle" ∧ y.cls ≠ "java/lang/invoke/VarHandle") ∧ (parseMethodDescriptor y.desc).map (fun d => d.parameters.length) = some n
theorem gY.good {y : MethodName} {bytes : ByteArray} {maxL n : Nat} {ret : Option FieldType} (h : gY y bytes maxL ret n) : GoodIn gW (Cond.code y bytes maxL ret :: gW) := fun w hw => (List.mem_cons.mp hw).elim (fun e => by rw [e]; exact ⟨h.1, gW_good _ h.1⟩) (fun hw => ⟨hw, gW_good _ hw⟩)
/-- a class's fields, as the tables have them -/
def gC (C : String) (T : u_T) (N : Nat) (ty0 : Nat → FieldType) : Prop := (∀ w ∈ u_ws C T N, w ∈ gW) ∧ (∀ k, k < N → parseFieldDescriptor (T k).2.2.1 = some (ty0 k)) ∧ (∀ a, a < N → ∀ b, b < N → a ≠ b → (T a).2.1 ≠ (T b).2.1)
theorem gcX0 : gC RX0 TX0 7 tyX0 := ⟨hinX0, tyX0_ok, nmX0⟩
theorem gcX1 : gC RX1 TX1 6 tyX1 := ⟨hinX1, tyX1_ok, nmX1⟩
theorem gcX2 : gC RX2 TX2 4 tyX2 := ⟨hinX2, tyX2_ok, nmX2⟩
theorem gcX3 : gC RX3 TX3 3 tyX3 := ⟨hinX3, tyX3_ok, nmX3⟩
theorem gcX4 : gC RX4 TX4 6 tyX4 := ⟨hinX4, tyX4_ok, nmX4⟩
theorem gcX5 : gC RX5 TX5 3 tyX5 := ⟨hinX5, tyX5_ok, nmX5⟩
theorem gcX6 : gC RX6 TX6 3 tyX6 := ⟨hinX6, tyX6_ok, nmX6⟩
theorem gcX7 : gC RX7 TX7 9 tyX7 := ⟨hinX7, tyX7_ok, nmX7⟩
theorem gcX8 : gC RX8 TX8 10 tyX8 := ⟨hinX8, tyX8_ok, nmX8⟩
section GROWS
variable {p : Program} {l : Launch} {e : Env} {R : Room} {s : State} {m : MethodId} {args : Array Value} {below : List Frame} {meth : Method} {c : Code} {H : Heap} {locs : List Loc} {cells slots : Nat} {Q : State → Prop}
variable {Z : gZ} {A : Nat → Prop} {ws ws' : va_W} {cc : ByteArray} {nL pc : Nat} {own : String} {ret : Option FieldType} {ls : Array Slot} {rest : List Value}
theorem gG.free (G : gG Z A s ws H locs) : ∀ q, va_A ws H.size q → A q := fun q h => h.elim (fun ⟨k, _, h⟩ => G.2.1.2 k _ h) (fun h => G.2.2.2 q (Nat.le_trans G.2.2.1.1 h))
theorem gG.pre (F : gF Z p m s args meth c cc nL own ret) (G : gG Z A s ws H locs) (av : List Value) : ∀ U : State, U.heap = H → s.WarmedH U.vm → va_Pc av (gB Z ws H.size) av.toArray U := fun U hU hW => ⟨rfl, by rw [hU], by rw [hU]; exact G.1, F.2.2.2.2.2.1.warm hW, G.2.1.weaken (fun _ _ _ _ => trivial)⟩
theorem gg_go {mc ms : Nat} {A1 : Nat → Prop} {a : Array Value} {v : Option Value} {st0 stk : List Value} (hr : va_Run p l e R s m args below meth c H locs cells slots mc ms (F0 m pc ls st0) rest (gQ Z A1 v ws' a) A1) (G : gG Z A s ws H locs) (hA1 : ∀ q, A1 q → A q) (hstk : v.toList ++ rest = stk)
    (kk : ∀ (H1 : Heap) (locs1 : List Loc), gG Z A s ws' H1 locs1 → W p l e R s m args below meth c H1 locs1 (cells + mc) (slots + ms) Q (F0 m (pc + 3) ls stk)) : W p l e R s m args below meth c H locs cells slots Q (F0 m pc ls st0) := by
  obtain ⟨hP, hD, hS, hA⟩ := G
  intro T hT X
  obtain ⟨v', st₀, t, T', L, h0, X', hL, e1, e2, ⟨⟨hv, hp, hd⟩, hz, hk⟩, st⟩ := hr T hT X
  cases hv
  subst hstk
  rw [h0] at hz hk
  obtain ⟨t2, a1, b1⟩ := kk T'.heap (locs ++ L) ⟨by rw [e1]; exact hp, hd.weaken (fun _ q _ h => hA1 q.1 h), ⟨Nat.le_trans hS.1 (by rw [e1]; exact hz), fun q h1 h2 => by rw [e1, hk q (Nat.lt_of_lt_of_le h1 hS.1) (fun z => h2 (hA1 q z))]; exact hS.2.1 q h1 h2, fun q hq => by
      rcases List.mem_append.mp hq with h | h
      · exact hS.2.2 q h
      · exact hA1 _ (hL q h)⟩, hA⟩ T' rfl X'
  exact ⟨t2, st t2 a1, b1⟩
theorem gg_callV (F : gF Z p m s args meth c cc nL own ret) (G : gG Z A s ws H locs) {y : MethodName} {bytes : ByteArray} {maxL n mc ms : Nat} {rt : Option FieldType} {rm : Room} {b : Nat} {As : List Value} {v : Option Value} {st0 stk : List Value} {k ci index : Nat} {fs : List Value} {r : vw_C}
    (hM : gM Z l y bytes maxL rt rm (.ref b :: As) ws v ws' mc ms) (hY : gY y bytes maxL rt n) (hV : Cond.instanceMethod y ∈ gW ∧ Cond.selects y.cls y y ∈ gW) (he : ws[k]? = some (b, .inr (ci, fs))) (hc : vwCl[ci]? = some r) (hcl : r.1 = y.cls) (hlink : Cond.methodLink own index y ∈ gW)
    (hn : As.length = n) (hrm : rm.cells = mc ∧ rm.slots = ms) (hR : rm.frames + 1 ≤ R.frames ∧ 8 + (maxL + 11) + rm.locals ≤ R.locals) (hst : st0 = As.reverse ++ .ref b :: rest) (hcat : (rest.map fun v => v.category).sum ≤ 8) (hls : ls.size = nL) (hRc : cells + mc ≤ R.cells ∧ slots + ms ≤ R.slots) (hdg : decode cc pc = .ok (.invokevirtual index, 3)) (hstk : v.toList ++ rest = stk)
    (kk : ∀ (H1 : Heap) (locs1 : List Loc), gG Z A s ws' H1 locs1 → W p l e R s m args below meth c H1 locs1 (cells + mc) (slots + ms) Q (F0 m (pc + 3) ls stk)) : W p l e R s m args below meth c H locs cells slots Q (F0 m pc ls st0) := by
  have hts := F.2.2.2.2.1
  refine gg_go (va_runV (C := y.cls) (As := As) (rest := rest) ⟨F.1, F.2.1, F.2.2.1, F.2.2.2.1, hts⟩ (hM H.size) ⟨callB_of n hts hY.good rfl hrm.1 hrm.2 (hts _ hY.2.1) (hts _ hlink) ⟨hY.2.2.1.1, hY.2.2.1.2, hY.2.2.2⟩ hR, hts _ hV.1, hts _ hV.2⟩ ⟨gB_blind, ?_, G.pre F _⟩ rfl hn hls hst (lv_room hcat) hdg hRc) G G.free hstk kk
  rw [← hcl]
  exact va_recv F.2.2.2.2.2.1.1 G.1 hc he
theorem gg_callVN (F : gF Z p m s args meth c cc nL own ret) (G : gG Z A s ws H locs) {y : MethodName} {host : String} {bytes : ByteArray} {maxL n mc ms : Nat} {rt : Option FieldType} {rm : Room} {b : Nat} {As : List Value} {v : Option Value} {st0 stk : List Value} {k ci index : Nat} {fs : List Value} {r : vw_C}
    (hM : gM Z l y bytes maxL rt rm (.ref b :: As) ws v ws' mc ms) (hY : gY y bytes maxL rt n) (hV : Cond.instanceMethod y ∈ gW ∧ Cond.selects y.cls y y ∈ gW) (he : ws[k]? = some (b, .inr (ci, fs))) (hc : vwCl[ci]? = some r) (hcl : r.1 = y.cls) (hlink : Cond.methodLinkNest own index y host ∈ nW)
    (hn : As.length = n) (hrm : rm.cells = mc ∧ rm.slots = ms) (hR : rm.frames + 1 ≤ R.frames ∧ 8 + (maxL + 11) + rm.locals ≤ R.locals) (hst : st0 = As.reverse ++ .ref b :: rest) (hcat : (rest.map fun v => v.category).sum ≤ 8) (hls : ls.size = nL) (hRc : cells + mc ≤ R.cells ∧ slots + ms ≤ R.slots) (hdg : decode cc pc = .ok (.invokevirtual index, 3)) (hstk : v.toList ++ rest = stk)
    (kk : ∀ (H1 : Heap) (locs1 : List Loc), gG Z A s ws' H1 locs1 → W p l e R s m args below meth c H1 locs1 (cells + mc) (slots + ms) Q (F0 m (pc + 3) ls stk)) : W p l e R s m args below meth c H locs cells slots Q (F0 m pc ls st0) := by
  have hts := F.2.2.2.2.1
  refine gg_go (va_runVN (C := y.cls) (As := As) (rest := rest) ⟨F.1, F.2.1, F.2.2.1, F.2.2.2.1, hts⟩ (hM H.size) ⟨va_cnB n hts hY.good rfl hrm.1 hrm.2 (F.2.2.2.2.2.1.2 _ hlink) (hts _ hY.2.1) ⟨hY.2.2.1.1, hY.2.2.1.2, hY.2.2.2⟩ hR, hts _ hV.1, hts _ hV.2⟩ ⟨gB_blind, ?_, G.pre F _⟩ rfl hn hls hst (lv_room hcat) hdg hRc) G G.free hstk kk
  rw [← hcl]
  exact va_recv F.2.2.2.2.2.1.1 G.1 hc he
theorem gg_callS (F : gF Z p m s args meth c cc nL own ret) (G : gG Z A s ws H locs) {y : MethodName} {bytes : ByteArray} {maxL n mc ms : Nat} {rt : Option FieldType} {rm : Room} {As : List Value} {v : Option Value} {st0 stk : List Value} {index : Nat}
    (hM : gM Z l y bytes maxL rt rm As ws v ws' mc ms) (hY : gY y bytes maxL rt n) (hV : Cond.static y ∈ gW) (hlink : Cond.methodLink own index y ∈ gW)
    (hn : As.length = n) (hrm : rm.cells = mc ∧ rm.slots = ms) (hR : rm.frames + 1 ≤ R.frames ∧ 8 + (maxL + 11) + rm.locals ≤ R.locals) (hst : st0 = As.reverse ++ rest) (hcat : (rest.map fun v => v.category).sum ≤ 8) (hls : ls.size = nL) (hRc : cells + mc ≤ R.cells ∧ slots + ms ≤ R.slots) (hdg : decode cc pc = .ok (.invokestatic index, 3)) (hstk : v.toList ++ rest = stk)
    (kk : ∀ (H1 : Heap) (locs1 : List Loc), gG Z A s ws' H1 locs1 → W p l e R s m args below meth c H1 locs1 (cells + mc) (slots + ms) Q (F0 m (pc + 3) ls stk)) : W p l e R s m args below meth c H locs cells slots Q (F0 m pc ls st0) := by
  have hts := F.2.2.2.2.1
  exact gg_go (va_runS (As := As) (rest := rest) ⟨F.1, F.2.1, F.2.2.1, F.2.2.2.1, hts⟩ (hM H.size) ⟨callB_of n hts hY.good rfl hrm.1 hrm.2 (hts _ hY.2.1) (hts _ hlink) ⟨hY.2.2.1.1, hY.2.2.1.2, hY.2.2.2⟩ hR, hts _ hV⟩ ⟨gB_blind, G.pre F _⟩ rfl hn hls hst (lv_room hcat) hdg hRc) G G.free hstk kk
theorem gg_callSN (F : gF Z p m s args meth c cc nL own ret) (G : gG Z A s ws H locs) {y : MethodName} {host : String} {bytes : ByteArray} {maxL n mc ms : Nat} {rt : Option FieldType} {rm : Room} {As : List Value} {v : Option Value} {st0 stk : List Value} {index : Nat}
    (hM : gM Z l y bytes maxL rt rm As ws v ws' mc ms) (hY : gY y bytes maxL rt n) (hV : Cond.static y ∈ gW) (hlink : Cond.methodLinkNest own index y host ∈ nW)
    (hn : As.length = n) (hrm : rm.cells = mc ∧ rm.slots = ms) (hR : rm.frames + 1 ≤ R.frames ∧ 8 + (maxL + 11) + rm.locals ≤ R.locals) (hst : st0 = As.reverse ++ rest) (hcat : (rest.map fun v => v.category).sum ≤ 8) (hls : ls.size = nL) (hRc : cells + mc ≤ R.cells ∧ slots + ms ≤ R.slots) (hdg : decode cc pc = .ok (.invokestatic index, 3)) (hstk : v.toList ++ rest = stk)
    (kk : ∀ (H1 : Heap) (locs1 : List Loc), gG Z A s ws' H1 locs1 → W p l e R s m args below meth c H1 locs1 (cells + mc) (slots + ms) Q (F0 m (pc + 3) ls stk)) : W p l e R s m args below meth c H locs cells slots Q (F0 m pc ls st0) := by
  have hts := F.2.2.2.2.1
  exact gg_go (va_runSN (As := As) (rest := rest) ⟨F.1, F.2.1, F.2.2.1, F.2.2.2.1, hts⟩ (hM H.size) ⟨va_cnB n hts hY.good rfl hrm.1 hrm.2 (F.2.2.2.2.2.1.2 _ hlink) (hts _ hY.2.1) ⟨hY.2.2.1.1, hY.2.2.1.2, hY.2.2.2⟩ hR, hts _ hV, trivial⟩ ⟨gB_blind, G.pre F _⟩ rfl hn hls hst (lv_room hcat) hdg hRc) G G.free hstk kk
theorem gg_callI (F : gF Z p m s args meth c cc nL own ret) (G : gG Z A s ws H locs) {y : MethodName} {bytes : ByteArray} {maxL n mc ms : Nat} {rm : Room} {b : Nat} {As : List Value} {v : Option Value} {st0 stk : List Value} {index : Nat}
    (hM : gM Z l y bytes maxL none rm (.ref b :: As) ws v ws' mc ms) (hY : gY y bytes maxL none n) (hV : y.name = "<init>" ∧ Cond.instanceMethod y ∈ gW) (hlink : Cond.methodLink own index y ∈ gW)
    (hn : As.length = n) (hrm : rm.cells = mc ∧ rm.slots = ms) (hR : rm.frames + 1 ≤ R.frames ∧ 8 + (maxL + 11) + rm.locals ≤ R.locals) (hst : st0 = As.reverse ++ .ref b :: rest) (hcat : (rest.map fun v => v.category).sum ≤ 8) (hls : ls.size = nL) (hRc : cells + mc ≤ R.cells ∧ slots + ms ≤ R.slots) (hdg : decode cc pc = .ok (.invokespecial index, 3)) (hstk : v.toList ++ rest = stk)
    (kk : ∀ (H1 : Heap) (locs1 : List Loc), gG Z A s ws' H1 locs1 → W p l e R s m args below meth c H1 locs1 (cells + mc) (slots + ms) Q (F0 m (pc + 3) ls stk)) : W p l e R s m args below meth c H locs cells slots Q (F0 m pc ls st0) := by
  have hts := F.2.2.2.2.1
  exact gg_go (va_runI (As := As) (rest := rest) ⟨F.1, F.2.1, F.2.2.1, F.2.2.2.1, hts⟩ (hM H.size) ⟨callB_of n hts hY.good rfl hrm.1 hrm.2 (hts _ hY.2.1) (hts _ hlink) ⟨hY.2.2.1.1, hY.2.2.1.2, hY.2.2.2⟩ hR, hV.1, hts _ hV.2⟩ ⟨gB_blind, G.pre F _⟩ rfl hn hls hst (lv_room hcat) hdg hRc) G G.free hstk kk
theorem gg_callIN (F : gF Z p m s args meth c cc nL own ret) (G : gG Z A s ws H locs) {y : MethodName} {host : String} {bytes : ByteArray} {maxL n mc ms : Nat} {rm : Room} {b : Nat} {As : List Value} {v : Option Value} {st0 stk : List Value} {index : Nat}
    (hM : gM Z l y bytes maxL none rm (.ref b :: As) ws v ws' mc ms) (hY : gY y bytes maxL none n) (hV : y.name = "<init>" ∧ Cond.instanceMethod y ∈ gW) (hlink : Cond.methodLinkNest own index y host ∈ nW)
    (hn : As.length = n) (hrm : rm.cells = mc ∧ rm.slots = ms) (hR : rm.frames + 1 ≤ R.frames ∧ 8 + (maxL + 11) + rm.locals ≤ R.locals) (hst : st0 = As.reverse ++ .ref b :: rest) (hcat : (rest.map fun v => v.category).sum ≤ 8) (hls : ls.size = nL) (hRc : cells + mc ≤ R.cells ∧ slots + ms ≤ R.slots) (hdg : decode cc pc = .ok (.invokespecial index, 3)) (hstk : v.toList ++ rest = stk)
    (kk : ∀ (H1 : Heap) (locs1 : List Loc), gG Z A s ws' H1 locs1 → W p l e R s m args below meth c H1 locs1 (cells + mc) (slots + ms) Q (F0 m (pc + 3) ls stk)) : W p l e R s m args below meth c H locs cells slots Q (F0 m pc ls st0) := by
  have hts := F.2.2.2.2.1
  exact gg_go (va_runIN (As := As) (rest := rest) ⟨F.1, F.2.1, F.2.2.1, F.2.2.2.1, hts⟩ (hM H.size) ⟨va_cnB n hts hY.good rfl hrm.1 hrm.2 (F.2.2.2.2.2.1.2 _ hlink) (hts _ hY.2.1) ⟨hY.2.2.1.1, hY.2.2.1.2, hY.2.2.2⟩ hR, hV.1, hts _ hV.2⟩ ⟨gB_blind, G.pre F _⟩ rfl hn hls hst (lv_room hcat) hdg hRc) G G.free hstk kk
/-- fields -/
theorem gg_get (F : gF Z p m s args meth c cc nL own ret) (G : gG Z A s ws H locs) {a ci q0 index N : Nat} (k : Nat) {fs : List Value} {C : String} {T : u_T} {ty0 : Nat → FieldType} {v : Value} (hC : gC C T N ty0) (hc : vwCl[ci]? = some (C, T, N)) (he : ws[q0]? = some (a, .inr (ci, fs))) (hk : k < N) (hlink : Cond.fieldLink own index (T k).1 (T k).2.1 (T k).2.2.1 ∈ gW) (hv : fs[k]? = some v) (hdg : decode cc pc = .ok (.getfield index, 3))
    (kk : W p l e R s m args below meth c H locs cells slots Q (F0 m (pc + 3) ls (v :: rest))) : W p l e R s m args below meth c H locs cells slots Q (F0 m pc ls (.ref a :: rest)) :=
  va_get F.1 F.2.1 F.2.2.2.2.1 hC.1 F.2.2.2.1 F.2.2.2.2.2.1.1 G.1 q0 he hc k hk (F.2.2.2.2.1 _ hlink) (fun _ h => h) hv hdg kk
theorem gg_getN (F : gF Z p m s args meth c cc nL own ret) (G : gG Z A s ws H locs) {a ci q0 index N : Nat} (k : Nat) {host : String} {fs : List Value} {C : String} {T : u_T} {ty0 : Nat → FieldType} {v : Value} (hC : gC C T N ty0) (hc : vwCl[ci]? = some (C, T, N)) (he : ws[q0]? = some (a, .inr (ci, fs))) (hk : k < N) (hlink : Cond.fieldLinkNest own index (T k).1 (T k).2.1 (T k).2.2.1 host ∈ nW) (hv : fs[k]? = some v) (hdg : decode cc pc = .ok (.getfield index, 3))
    (kk : W p l e R s m args below meth c H locs cells slots Q (F0 m (pc + 3) ls (v :: rest))) : W p l e R s m args below meth c H locs cells slots Q (F0 m pc ls (.ref a :: rest)) :=
  va_getN F.1 F.2.1 F.2.2.2.2.1 hC.1 F.2.2.2.1 F.2.2.2.2.2.1.1 G.1 q0 he hc k hk (va_Nw.use rfl (F.2.2.2.2.2.1.2 _ hlink)) (fun _ h => h) hv hdg kk
theorem gg_put (F : gF Z p m s args meth c cc nL own ret) (G : gG Z A s ws H locs) {a ci q0 index N : Nat} (k : Nat) {fs : List Value} {C : String} {T : u_T} {ty0 : Nat → FieldType} {v : Value} (hC : gC C T N ty0) (hc : vwCl[ci]? = some (C, T, N)) (he : ws[q0]? = some (a, .inr (ci, fs))) (hk : k < N) (hlink : Cond.fieldLink own index (T k).1 (T k).2.1 (T k).2.2.1 ∈ gW) (hfin : (T k).2.2.2 = false) (hn : narrow (ty0 k) v = v) (hfit : fits (ty0 k) v = true) (hl : k < fs.length) (hw : ws.set q0 (a, .inr (ci, fs.set k v)) = ws') (hdg : decode cc pc = .ok (.putfield index, 3))
    (kk : ∀ (H1 : Heap) (locs1 : List Loc), gG Z A s ws' H1 locs1 → W p l e R s m args below meth c H1 locs1 cells slots Q (F0 m (pc + 3) ls rest)) : W p l e R s m args below meth c H locs cells slots Q (F0 m pc ls (v :: .ref a :: rest)) :=
  va_put F.1 F.2.1 F.2.2.2.2.1 hC.1 ty0 hC.2.1 hC.2.2 F.2.2.2.1 F.2.2.2.2.2.1.1 G.1 G.2.1 G.2.2.1 q0 he hc k hk (F.2.2.2.2.1 _ hlink) (fun _ h => h) hfin (hC.2.1 k hk) hn hfit hl hdg (fun H1 locs1 h1 h2 h3 => kk H1 locs1 ⟨hw ▸ h1, hw ▸ h2, h3, G.2.2.2⟩)
theorem gg_putN (F : gF Z p m s args meth c cc nL own ret) (G : gG Z A s ws H locs) {a ci q0 index N : Nat} (k : Nat) {host : String} {fs : List Value} {C : String} {T : u_T} {ty0 : Nat → FieldType} {v : Value} (hC : gC C T N ty0) (hc : vwCl[ci]? = some (C, T, N)) (he : ws[q0]? = some (a, .inr (ci, fs))) (hk : k < N) (hlink : Cond.fieldLinkNest own index (T k).1 (T k).2.1 (T k).2.2.1 host ∈ nW) (hfin : (T k).2.2.2 = false) (hn : narrow (ty0 k) v = v) (hfit : fits (ty0 k) v = true) (hl : k < fs.length) (hw : ws.set q0 (a, .inr (ci, fs.set k v)) = ws') (hdg : decode cc pc = .ok (.putfield index, 3))
    (kk : ∀ (H1 : Heap) (locs1 : List Loc), gG Z A s ws' H1 locs1 → W p l e R s m args below meth c H1 locs1 cells slots Q (F0 m (pc + 3) ls rest)) : W p l e R s m args below meth c H locs cells slots Q (F0 m pc ls (v :: .ref a :: rest)) :=
  va_putN F.1 F.2.1 F.2.2.2.2.1 hC.1 ty0 hC.2.1 hC.2.2 F.2.2.2.1 F.2.2.2.2.2.1.1 G.1 G.2.1 G.2.2.1 q0 he hc k hk (va_Nw.use rfl (F.2.2.2.2.2.1.2 _ hlink)) (fun _ h => h) hfin (hC.2.1 k hk) hn hfit hl hdg (fun H1 locs1 h1 h2 h3 => kk H1 locs1 ⟨hw ▸ h1, hw ▸ h2, h3, G.2.2.2⟩)
/-- arrays -/
theorem gg_iald (F : gF Z p m s args meth c cc nL own ret) (G : gG Z A s ws H locs) {a q0 n : Nat} {f : Nat → Int32} {i v : Int32} (he : ws[q0]? = some (a, .inl (Z.2.1, n, .inl f))) (hin : vp_in i n) (hv : f i.toNatClampNeg = v) (hdg : decode cc pc = .ok (.iaload, 1))
    (kk : W p l e R s m args below meth c H locs cells slots Q (F0 m (pc + 1) ls (.int v :: rest))) : W p l e R s m args below meth c H locs cells slots Q (F0 m pc ls (.int i :: .ref a :: rest)) :=
  va_iald F.1 F.2.1 F.2.2.2.2.2.1.1 G.1 q0 0 he rfl hin hdg (by rw [hv]; exact kk)
theorem gg_iast (F : gF Z p m s args meth c cc nL own ret) (G : gG Z A s ws H locs) {a q0 n : Nat} {f : Nat → Int32} {i x : Int32} (he : ws[q0]? = some (a, .inl (Z.2.1, n, .inl f))) (hin : vp_in i n) (hw : ws.set q0 (a, .inl (Z.2.1, n, .inl (upd f i.toNatClampNeg x))) = ws') (hdg : decode cc pc = .ok (.iastore, 1))
    (kk : ∀ (H1 : Heap) (locs1 : List Loc), gG Z A s ws' H1 locs1 → W p l e R s m args below meth c H1 locs1 cells slots Q (F0 m (pc + 1) ls rest)) : W p l e R s m args below meth c H locs cells slots Q (F0 m pc ls (.int x :: .int i :: .ref a :: rest)) :=
  va_iast F.1 F.2.1 F.2.2.2.2.2.1.1 G.1 G.2.1 G.2.2.1 q0 0 he rfl hin hdg (fun H1 locs1 h1 h2 h3 => kk H1 locs1 ⟨hw ▸ h1, hw ▸ h2, h3, G.2.2.2⟩)
theorem gg_aald (F : gF Z p m s args meth c cc nL own ret) (G : gG Z A s ws H locs) {a q0 t0 n : Nat} {cA : ClassId} {C : String} {f : Nat → Option Nat} {i : Int32} {v : Value} (he : ws[q0]? = some (a, .inl (cA, n, .inr (.inr (.inr (.inr f)))))) (ht : (gT Z)[t0]? = some (cA, .object C)) (hin : vp_in i n) (hv : va_rf (f i.toNatClampNeg) = v) (hdg : decode cc pc = .ok (.aaload, 1))
    (kk : W p l e R s m args below meth c H locs cells slots Q (F0 m (pc + 1) ls (v :: rest))) : W p l e R s m args below meth c H locs cells slots Q (F0 m pc ls (.int i :: .ref a :: rest)) :=
  va_aldq F.1 F.2.1 F.2.2.2.2.2.1.1 G.1 q0 t0 he ht hin hdg (by rw [hv]; exact kk)
theorem gg_alen (F : gF Z p m s args meth c cc nL own ret) (G : gG Z A s ws H locs) {a q0 t0 : Nat} {cA : ClassId} {x : vp_A} {ty : FieldType} {v : Int32} (he : ws[q0]? = some (a, .inl (cA, x))) (ht : (gT Z)[t0]? = some (cA, ty)) (hv : Int32.ofNat x.1 = v) (hdg : decode cc pc = .ok (.arraylength, 1))
    (kk : W p l e R s m args below meth c H locs cells slots Q (F0 m (pc + 1) ls (.int v :: rest))) : W p l e R s m args below meth c H locs cells slots Q (F0 m pc ls (.ref a :: rest)) :=
  va_alen F.1 F.2.1 F.2.2.2.2.2.1.1 G.1 q0 t0 he ht hv hdg kk
/-- ends -/
theorem gg_iret {ty : FieldType} (F : gF Z p m s args meth c cc nL own (some ty)) (G : gG Z A s ws H locs) {x v : Int32} (hn : narrow ty (.int x) = .int x) (hv : x = v) (hw : ws = ws') (hdg : decode cc pc = .ok (.ireturn, 1)) : W p l e R s m args below meth c H locs cells slots (MQ below (gQ Z A (some (.int v)) ws') args s cells slots A) (F0 m pc ls [.int x]) := by
  subst hv; subst hw
  have hlocks := F.2.2.2.2.2.2.2
  exact W.zret F.1 F.2.1 F.2.2.2.2.2.2.1 hn (fun t ht hW => ⟨⟨rfl, by rw [ht]; exact G.1, G.2.1⟩, G.2.2.1.F ht⟩) G.2.2.1.2.2 hdg
theorem gg_lret (F : gF Z p m s args meth c cc nL own (some .long)) (G : gG Z A s ws H locs) {x v : Int64} (hv : x = v) (hw : ws = ws') (hdg : decode cc pc = .ok (.lreturn, 1)) : W p l e R s m args below meth c H locs cells slots (MQ below (gQ Z A (some (.long v)) ws') args s cells slots A) (F0 m pc ls [.long x]) := by
  subst hv; subst hw
  have hlocks := F.2.2.2.2.2.2.2
  exact W.lret F.1 F.2.1 F.2.2.2.2.2.2.1 (fun t ht hW => ⟨⟨rfl, by rw [ht]; exact G.1, G.2.1⟩, G.2.2.1.F ht⟩) G.2.2.1.2.2 hdg
theorem gg_vret (F : gF Z p m s args meth c cc nL own none) (G : gG Z A s ws H locs) (hw : ws = ws') (hdg : decode cc pc = .ok (.return_, 1)) : W p l e R s m args below meth c H locs cells slots (MQ below (gQ Z A none ws') args s cells slots A) (F0 m pc ls []) := by
  subst hw
  have hlocks := F.2.2.2.2.2.2.2
  exact W.vret F.1 F.2.1 F.2.2.2.2.2.2.1 (fun t ht hW => ⟨⟨rfl, by rw [ht]; exact G.1, G.2.1⟩, G.2.2.1.F ht⟩) G.2.2.1.2.2 hdg
theorem gg_aret {C : String} (F : gF Z p m s args meth c cc nL own (some (.object C))) (G : gG Z A s ws H locs) {x v : Value} (hx : x = .null ∨ ∃ a, x = .ref a) (hv : x = v) (hw : ws = ws') (hdg : decode cc pc = .ok (.areturn, 1)) : W p l e R s m args below meth c H locs cells slots (MQ below (gQ Z A (some v) ws') args s cells slots A) (F0 m pc ls [x]) := by
  subst hv; subst hw
  have hlocks := F.2.2.2.2.2.2.2
  exact W.aret F.1 F.2.1 F.2.2.2.2.2.2.1 (Or.inl ⟨_, rfl⟩) hx (fun t ht hW => ⟨⟨rfl, by rw [ht]; exact G.1, G.2.1⟩, G.2.2.1.F ht⟩) G.2.2.1.2.2 hdg
/-- Math.max, Math.abs -/
theorem gg_max (F : gF Z p m s args meth c cc nL own ret) {index : Nat} (hls : ls.size = nL) (hlink : Cond.methodLink own index Lib.Math.max.name ∈ gW) (hframes : 1 ≤ R.frames) (hlocals : (rest.map fun v => v.category).sum + 13 ≤ R.locals) (hc : cells ≤ R.cells) (hs : slots ≤ R.slots) {x y : Int32} (hdg : decode cc pc = .ok (.invokestatic index, 3))
    (kk : W p l e R s m args below meth c H locs cells slots Q (F0 m (pc + 3) ls (.int (if x < y then y else x) :: rest))) : W p l e R s m args below meth c H locs cells slots Q (F0 m pc ls (.int y :: .int x :: rest)) :=
  va_mmax F.1 F.2.1 (F.2.2.1.trans hls.symm) F.2.2.2.1 (F.2.2.2.2.1 _ hlink) (F.2.2.2.2.1 _ w1_85) (F.2.2.2.2.1 _ w1_6) (F.2.2.2.2.1 _ w1_86) hframes hlocals hc hs hdg kk
theorem gg_abs (F : gF Z p m s args meth c cc nL own ret) {index : Nat} (hls : ls.size = nL) (hlink : Cond.methodLink own index Lib.Math.abs.name ∈ gW) (hframes : 1 ≤ R.frames) (hlocals : (rest.map fun v => v.category).sum + 13 ≤ R.locals) (hc : cells ≤ R.cells) (hs : slots ≤ R.slots) {x : Int32} (hdg : decode cc pc = .ok (.invokestatic index, 3))
    (kk : W p l e R s m args below meth c H locs cells slots Q (F0 m (pc + 3) ls (.int (if 0 ≤ x then x else 0 - x) :: rest))) : W p l e R s m args below meth c H locs cells slots Q (F0 m pc ls (.int x :: rest)) :=
  va_mabs F.1 F.2.1 (F.2.2.1.trans hls.symm) F.2.2.2.1 (F.2.2.2.2.1 _ hlink) (F.2.2.2.2.1 _ w4_173) (F.2.2.2.2.1 _ w1_6) (F.2.2.2.2.1 _ w4_174) hframes hlocals hc hs hdg kk
end GROWS
end
section
/-! the worlds: the cells of the class (wC) and of the reference (wR), out of tables of numbers M, N by (kind of number, which, place) -/
def wm (AD : Nat → Nat) (ct : Nat → va_E) (n : Nat) : va_W := (List.range n).map (fun k => (AD k, ct k))
theorem wm_get {AD : Nat → Nat} {ct : Nat → va_E} {n k : Nat} (h : k < n) : (wm AD ct n)[k]? = some (AD k, ct k) := by
  simp [wm, h]
theorem wm_get2 {AD : Nat → Nat} {ct : Nat → va_E} {n k : Nat} {e : va_E} (h : k < n) (he : ct k = e) : (wm AD ct n)[k]? = some (AD k, e) := by
  rw [wm_get h, he]
theorem wm_set {AD : Nat → Nat} {ct ct' : Nat → va_E} {n k : Nat} (h : ∀ j, j ≠ k → ct' j = ct j) : (wm AD ct n).set k (AD k, ct' k) = wm AD ct' n := by
  apply List.ext_getElem?
  intro i
  rw [List.getElem?_set]
  by_cases hi : k = i
  · subst hi
    by_cases hl : k < n
    · simp [wm, hl]
    · simp [wm, hl]
  · simp only [if_neg hi]
    by_cases hl : i < n
    · rw [wm_get hl, wm_get hl, h i (fun q => hi q.symm)]
    · simp [wm, hl]
theorem mu_s {M : St} {f i j : Nat} {v : Int32} : mu M f i j v f i j = v := by simp [mu, upd]
theorem mu_r {M : St} {f i j : Nat} {v : Int32} : mu M f i j v f i = upd (M f i) j v := by simp [mu]
theorem mu_o {M : St} {f g i j : Nat} {v : Int32} (h : g ≠ f) : mu M f i j v g = M g := by simp [mu, h]
theorem mu_i {M : St} {f i j a : Nat} {v : Int32} (h : a ≠ i) : mu M f i j v f a = M f a := by simp [mu, h]
theorem mu_j {M : St} {f i j b : Nat} {v : Int32} (h : b ≠ j) : mu M f i j v f i b = M f i b := by simp [mu, upd, h]
theorem mu_ne {M : St} {f g i j a : Nat} {v : Int32} (h : ¬ (g = f ∧ a = i)) : mu M f i j v g a = M g a := by
  by_cases hg : g = f
  · subst hg
    exact mu_i (fun q => h ⟨rfl, q⟩)
  · rw [mu_o hg]
/-- the class's cells. 0 the club's outer object; 1+c its two Club; 3+c their arrays of stations, 5+c of members; 7+c what is heard; 9+j sets (j = 8c+m; 16: the probe); 26+j members; 42+t tables (t = 8c+m: a log; 16+c: the letters); 60+t their numbers; 78+i stations -/
def ctC (Z : gZ) (AD : Nat → Nat) (M : St) (k : Nat) : va_E :=
  if k < 1 then .inr (6, [.ref (AD 1), .ref (AD 2), .ref (AD 25)])
  else if k < 3 then .inr (0, [.ref (AD (k + 2)), .ref (AD (k + 4)), .ref (AD (57 + k)), .ref (AD (k + 6)), .int (M 1 (k - 1) 0), .int (M 2 (k - 1) 0), .int (M 3 (k - 1) 0)])
  else if k < 5 then .inl (Z.2.2.2, 12, .inr (.inr (.inr (.inr (fun i => if M 17 (k - 3) i = 0 then none else some (AD (78 + i)))))))
  else if k < 7 then .inl (Z.2.2.1, 8, .inr (.inr (.inr (.inr (fun i => some (AD (26 + (8 * (k - 5) + i))))))))
  else if k < 9 then .inr (2, [.int (M 4 (k - 7) 0), .int (M 5 (k - 7) 0), .int (M 6 (k - 7) 0), .int (M 7 (k - 7) 0)])
  else if k < 26 then .inr (1, [.int (M 8 (k - 9) 0), .int (M 9 (k - 9) 0), .int (M 10 (k - 9) 0), .int (M 11 (k - 9) 0), .int (M 12 (k - 9) 0), .int (M 13 (k - 9) 0)])
  else if k < 42 then .inr (3, [.ref (AD (k - 17)), .ref (AD (k + 16)), .int (M 14 (k - 26) 0)])
  else if k < 60 then .inr (5, [.int (if k < 58 then 4 else 3), .ref (AD (k + 18)), .int (M 15 (k - 42) 0)])
  else if k < 78 then .inl (Z.2.1, (if k < 76 then 160 else 90), .inl (M 16 (k - 60)))
  else .inr (4, [.int (M 0 (k - 78) 0), .int (M 0 (k - 78) 1), .int (M 0 (k - 78) 2), .int (M 0 (k - 78) 3), .int (M 0 (k - 78) 4), .int (M 0 (k - 78) 5)])
/-- in which cell a number lies -/
def owC (f i : Nat) : Nat := if f = 0 then 78 + i else if f < 4 then 1 + i else if f < 8 then 7 + i else if f < 14 then 9 + i else if f = 14 then 26 + i else if f = 15 then 42 + i else if f = 16 then 60 + i else 3 + i
abbrev wC (Z : gZ) (AD : Nat → Nat) (M : St) (n : Nat) : va_W := wm AD (ctC Z AD M) n
theorem ctC_ext {Z : gZ} {AD : Nat → Nat} {M M' : St} {k : Nat} (h : ∀ f i, owC f i = k → M' f i = M f i) : ctC Z AD M' k = ctC Z AD M k := by
  unfold ctC
  by_cases h0 : k < 1
  · rw [if_pos h0, if_pos h0]
  rw [if_neg h0, if_neg h0]
  by_cases h1 : k < 3
  · rw [if_pos h1, if_pos h1, h 1 (k - 1) (show 1 + (k - 1) = k by omega), h 2 (k - 1) (show 1 + (k - 1) = k by omega), h 3 (k - 1) (show 1 + (k - 1) = k by omega)]
  rw [if_neg h1, if_neg h1]
  by_cases h2 : k < 5
  · rw [if_pos h2, if_pos h2, h 17 (k - 3) (show 3 + (k - 3) = k by omega)]
  rw [if_neg h2, if_neg h2]
  by_cases h3 : k < 7
  · rw [if_pos h3, if_pos h3]
  rw [if_neg h3, if_neg h3]
  by_cases h4 : k < 9
  · rw [if_pos h4, if_pos h4, h 4 (k - 7) (show 7 + (k - 7) = k by omega), h 5 (k - 7) (show 7 + (k - 7) = k by omega), h 6 (k - 7) (show 7 + (k - 7) = k by omega), h 7 (k - 7) (show 7 + (k - 7) = k by omega)]
  rw [if_neg h4, if_neg h4]
  by_cases h5 : k < 26
  · rw [if_pos h5, if_pos h5, h 8 (k - 9) (show 9 + (k - 9) = k by omega), h 9 (k - 9) (show 9 + (k - 9) = k by omega), h 10 (k - 9) (show 9 + (k - 9) = k by omega), h 11 (k - 9) (show 9 + (k - 9) = k by omega), h 12 (k - 9) (show 9 + (k - 9) = k by omega), h 13 (k - 9) (show 9 + (k - 9) = k by omega)]
  rw [if_neg h5, if_neg h5]
  by_cases h6 : k < 42
  · rw [if_pos h6, if_pos h6, h 14 (k - 26) (show 26 + (k - 26) = k by omega)]
  rw [if_neg h6, if_neg h6]
  by_cases h7 : k < 60
  · rw [if_pos h7, if_pos h7, h 15 (k - 42) (show 42 + (k - 42) = k by omega)]
  rw [if_neg h7, if_neg h7]
  by_cases h8 : k < 78
  · rw [if_pos h8, if_pos h8, h 16 (k - 60) (show 60 + (k - 60) = k by omega)]
  rw [if_neg h8, if_neg h8, h 0 (k - 78) (show 78 + (k - 78) = k by omega)]
theorem wC_set {Z : gZ} {AD : Nat → Nat} {M : St} {n : Nat} (f i j : Nat) (v : Int32) : (wC Z AD M n).set (owC f i) (AD (owC f i), ctC Z AD (mu M f i j v) (owC f i)) = wC Z AD (mu M f i j v) n :=
  wm_set (fun b hb => ctC_ext (fun g a hg => mu_ne (fun ⟨q1, q2⟩ => hb (by rw [← hg, q1, q2]))))
theorem ctC_root {Z : gZ} {AD : Nat → Nat} {M : St} : ctC Z AD M (0) = .inr (6, [.ref (AD 1), .ref (AD 2), .ref (AD 25)]) := rfl
theorem gC_root {Z : gZ} {AD : Nat → Nat} {M : St} {n : Nat} (hn : 78 ≤ n) : (wC Z AD M n)[0]? = some (AD (0), .inr (6, [.ref (AD 1), .ref (AD 2), .ref (AD 25)])) := wm_get2 (by omega) (ctC_root)
theorem ctC_club {Z : gZ} {AD : Nat → Nat} {M : St} {c : Nat} (hc : c < 2) : ctC Z AD M (1 + c) = .inr (0, [.ref (AD (3 + c)), .ref (AD (5 + c)), .ref (AD (42 + (16 + c))), .ref (AD (7 + c)), .int (M 1 c 0), .int (M 2 c 0), .int (M 3 c 0)]) := by
  match c, hc with
  | 0, _ => rfl
  | 1, _ => rfl
  | q + 2, h => exact absurd h (by omega)
theorem gC_club {Z : gZ} {AD : Nat → Nat} {M : St} {n : Nat} {c : Nat} (hc : c < 2) (hn : 78 ≤ n) : (wC Z AD M n)[1 + c]? = some (AD (1 + c), .inr (0, [.ref (AD (3 + c)), .ref (AD (5 + c)), .ref (AD (42 + (16 + c))), .ref (AD (7 + c)), .int (M 1 c 0), .int (M 2 c 0), .int (M 3 c 0)])) := wm_get2 (by omega) (ctC_club hc)
theorem pC_1 {Z : gZ} {AD : Nat → Nat} {M : St} {n : Nat} {c : Nat} {x : Int32} (hc : c < 2) : (wC Z AD M n).set (1 + c) (AD (1 + c), .inr (0, [.ref (AD (3 + c)), .ref (AD (5 + c)), .ref (AD (42 + (16 + c))), .ref (AD (7 + c)), .int x, .int (M 2 c 0), .int (M 3 c 0)])) = wC Z AD (mu M 1 c 0 x) n := by
  have h : (wC Z AD M n).set (1 + c) (AD (1 + c), ctC Z AD (mu M 1 c 0 x) (1 + c)) = wC Z AD (mu M 1 c 0 x) n := wC_set 1 c 0 x
  rw [ctC_club hc, mu_s] at h
  exact h
theorem pC_2 {Z : gZ} {AD : Nat → Nat} {M : St} {n : Nat} {c : Nat} {x : Int32} (hc : c < 2) : (wC Z AD M n).set (1 + c) (AD (1 + c), .inr (0, [.ref (AD (3 + c)), .ref (AD (5 + c)), .ref (AD (42 + (16 + c))), .ref (AD (7 + c)), .int (M 1 c 0), .int x, .int (M 3 c 0)])) = wC Z AD (mu M 2 c 0 x) n := by
  have h : (wC Z AD M n).set (1 + c) (AD (1 + c), ctC Z AD (mu M 2 c 0 x) (1 + c)) = wC Z AD (mu M 2 c 0 x) n := wC_set 2 c 0 x
  rw [ctC_club hc, mu_s] at h
  exact h
theorem pC_3 {Z : gZ} {AD : Nat → Nat} {M : St} {n : Nat} {c : Nat} {x : Int32} (hc : c < 2) : (wC Z AD M n).set (1 + c) (AD (1 + c), .inr (0, [.ref (AD (3 + c)), .ref (AD (5 + c)), .ref (AD (42 + (16 + c))), .ref (AD (7 + c)), .int (M 1 c 0), .int (M 2 c 0), .int x])) = wC Z AD (mu M 3 c 0 x) n := by
  have h : (wC Z AD M n).set (1 + c) (AD (1 + c), ctC Z AD (mu M 3 c 0 x) (1 + c)) = wC Z AD (mu M 3 c 0 x) n := wC_set 3 c 0 x
  rw [ctC_club hc, mu_s] at h
  exact h
theorem ctC_sarr {Z : gZ} {AD : Nat → Nat} {M : St} {c : Nat} (hc : c < 2) : ctC Z AD M (3 + c) = .inl (Z.2.2.2, 12, .inr (.inr (.inr (.inr (fun i => if M 17 c i = 0 then none else some (AD (78 + i))))))) := by
  match c, hc with
  | 0, _ => rfl
  | 1, _ => rfl
  | q + 2, h => exact absurd h (by omega)
theorem gC_sarr {Z : gZ} {AD : Nat → Nat} {M : St} {n : Nat} {c : Nat} (hc : c < 2) (hn : 78 ≤ n) : (wC Z AD M n)[3 + c]? = some (AD (3 + c), .inl (Z.2.2.2, 12, .inr (.inr (.inr (.inr (fun i => if M 17 c i = 0 then none else some (AD (78 + i)))))))) := wm_get2 (by omega) (ctC_sarr hc)
theorem ctC_marr {Z : gZ} {AD : Nat → Nat} {M : St} {c : Nat} (hc : c < 2) : ctC Z AD M (5 + c) = .inl (Z.2.2.1, 8, .inr (.inr (.inr (.inr (fun i => some (AD (26 + (8 * c + i)))))))) := by
  match c, hc with
  | 0, _ => rfl
  | 1, _ => rfl
  | q + 2, h => exact absurd h (by omega)
theorem gC_marr {Z : gZ} {AD : Nat → Nat} {M : St} {n : Nat} {c : Nat} (hc : c < 2) (hn : 78 ≤ n) : (wC Z AD M n)[5 + c]? = some (AD (5 + c), .inl (Z.2.2.1, 8, .inr (.inr (.inr (.inr (fun i => some (AD (26 + (8 * c + i))))))))) := wm_get2 (by omega) (ctC_marr hc)
theorem ctC_hear {Z : gZ} {AD : Nat → Nat} {M : St} {c : Nat} (hc : c < 2) : ctC Z AD M (7 + c) = .inr (2, [.int (M 4 c 0), .int (M 5 c 0), .int (M 6 c 0), .int (M 7 c 0)]) := by
  match c, hc with
  | 0, _ => rfl
  | 1, _ => rfl
  | q + 2, h => exact absurd h (by omega)
theorem gC_hear {Z : gZ} {AD : Nat → Nat} {M : St} {n : Nat} {c : Nat} (hc : c < 2) (hn : 78 ≤ n) : (wC Z AD M n)[7 + c]? = some (AD (7 + c), .inr (2, [.int (M 4 c 0), .int (M 5 c 0), .int (M 6 c 0), .int (M 7 c 0)])) := wm_get2 (by omega) (ctC_hear hc)
theorem pC_4 {Z : gZ} {AD : Nat → Nat} {M : St} {n : Nat} {c : Nat} {x : Int32} (hc : c < 2) : (wC Z AD M n).set (7 + c) (AD (7 + c), .inr (2, [.int x, .int (M 5 c 0), .int (M 6 c 0), .int (M 7 c 0)])) = wC Z AD (mu M 4 c 0 x) n := by
  have h : (wC Z AD M n).set (7 + c) (AD (7 + c), ctC Z AD (mu M 4 c 0 x) (7 + c)) = wC Z AD (mu M 4 c 0 x) n := wC_set 4 c 0 x
  rw [ctC_hear hc, mu_s] at h
  exact h
theorem pC_5 {Z : gZ} {AD : Nat → Nat} {M : St} {n : Nat} {c : Nat} {x : Int32} (hc : c < 2) : (wC Z AD M n).set (7 + c) (AD (7 + c), .inr (2, [.int (M 4 c 0), .int x, .int (M 6 c 0), .int (M 7 c 0)])) = wC Z AD (mu M 5 c 0 x) n := by
  have h : (wC Z AD M n).set (7 + c) (AD (7 + c), ctC Z AD (mu M 5 c 0 x) (7 + c)) = wC Z AD (mu M 5 c 0 x) n := wC_set 5 c 0 x
  rw [ctC_hear hc, mu_s] at h
  exact h
theorem pC_6 {Z : gZ} {AD : Nat → Nat} {M : St} {n : Nat} {c : Nat} {x : Int32} (hc : c < 2) : (wC Z AD M n).set (7 + c) (AD (7 + c), .inr (2, [.int (M 4 c 0), .int (M 5 c 0), .int x, .int (M 7 c 0)])) = wC Z AD (mu M 6 c 0 x) n := by
  have h : (wC Z AD M n).set (7 + c) (AD (7 + c), ctC Z AD (mu M 6 c 0 x) (7 + c)) = wC Z AD (mu M 6 c 0 x) n := wC_set 6 c 0 x
  rw [ctC_hear hc, mu_s] at h
  exact h
theorem pC_7 {Z : gZ} {AD : Nat → Nat} {M : St} {n : Nat} {c : Nat} {x : Int32} (hc : c < 2) : (wC Z AD M n).set (7 + c) (AD (7 + c), .inr (2, [.int (M 4 c 0), .int (M 5 c 0), .int (M 6 c 0), .int x])) = wC Z AD (mu M 7 c 0 x) n := by
  have h : (wC Z AD M n).set (7 + c) (AD (7 + c), ctC Z AD (mu M 7 c 0 x) (7 + c)) = wC Z AD (mu M 7 c 0 x) n := wC_set 7 c 0 x
  rw [ctC_hear hc, mu_s] at h
  exact h
theorem ctC_cset {Z : gZ} {AD : Nat → Nat} {M : St} {j : Nat} (hj : j < 17) : ctC Z AD M (9 + j) = .inr (1, [.int (M 8 j 0), .int (M 9 j 0), .int (M 10 j 0), .int (M 11 j 0), .int (M 12 j 0), .int (M 13 j 0)]) := by
  match j, hj with
  | 0, _ => rfl
  | 1, _ => rfl
  | 2, _ => rfl
  | 3, _ => rfl
  | 4, _ => rfl
  | 5, _ => rfl
  | 6, _ => rfl
  | 7, _ => rfl
  | 8, _ => rfl
  | 9, _ => rfl
  | 10, _ => rfl
  | 11, _ => rfl
  | 12, _ => rfl
  | 13, _ => rfl
  | 14, _ => rfl
  | 15, _ => rfl
  | 16, _ => rfl
  | q + 17, h => exact absurd h (by omega)
theorem gC_cset {Z : gZ} {AD : Nat → Nat} {M : St} {n : Nat} {j : Nat} (hj : j < 17) (hn : 78 ≤ n) : (wC Z AD M n)[9 + j]? = some (AD (9 + j), .inr (1, [.int (M 8 j 0), .int (M 9 j 0), .int (M 10 j 0), .int (M 11 j 0), .int (M 12 j 0), .int (M 13 j 0)])) := wm_get2 (by omega) (ctC_cset hj)
theorem pC_8 {Z : gZ} {AD : Nat → Nat} {M : St} {n : Nat} {j : Nat} {x : Int32} (hj : j < 17) : (wC Z AD M n).set (9 + j) (AD (9 + j), .inr (1, [.int x, .int (M 9 j 0), .int (M 10 j 0), .int (M 11 j 0), .int (M 12 j 0), .int (M 13 j 0)])) = wC Z AD (mu M 8 j 0 x) n := by
  have h : (wC Z AD M n).set (9 + j) (AD (9 + j), ctC Z AD (mu M 8 j 0 x) (9 + j)) = wC Z AD (mu M 8 j 0 x) n := wC_set 8 j 0 x
  rw [ctC_cset hj, mu_s] at h
  exact h
theorem pC_9 {Z : gZ} {AD : Nat → Nat} {M : St} {n : Nat} {j : Nat} {x : Int32} (hj : j < 17) : (wC Z AD M n).set (9 + j) (AD (9 + j), .inr (1, [.int (M 8 j 0), .int x, .int (M 10 j 0), .int (M 11 j 0), .int (M 12 j 0), .int (M 13 j 0)])) = wC Z AD (mu M 9 j 0 x) n := by
  have h : (wC Z AD M n).set (9 + j) (AD (9 + j), ctC Z AD (mu M 9 j 0 x) (9 + j)) = wC Z AD (mu M 9 j 0 x) n := wC_set 9 j 0 x
  rw [ctC_cset hj, mu_s] at h
  exact h
theorem pC_10 {Z : gZ} {AD : Nat → Nat} {M : St} {n : Nat} {j : Nat} {x : Int32} (hj : j < 17) : (wC Z AD M n).set (9 + j) (AD (9 + j), .inr (1, [.int (M 8 j 0), .int (M 9 j 0), .int x, .int (M 11 j 0), .int (M 12 j 0), .int (M 13 j 0)])) = wC Z AD (mu M 10 j 0 x) n := by
  have h : (wC Z AD M n).set (9 + j) (AD (9 + j), ctC Z AD (mu M 10 j 0 x) (9 + j)) = wC Z AD (mu M 10 j 0 x) n := wC_set 10 j 0 x
  rw [ctC_cset hj, mu_s] at h
  exact h
theorem pC_11 {Z : gZ} {AD : Nat → Nat} {M : St} {n : Nat} {j : Nat} {x : Int32} (hj : j < 17) : (wC Z AD M n).set (9 + j) (AD (9 + j), .inr (1, [.int (M 8 j 0), .int (M 9 j 0), .int (M 10 j 0), .int x, .int (M 12 j 0), .int (M 13 j 0)])) = wC Z AD (mu M 11 j 0 x) n := by
  have h : (wC Z AD M n).set (9 + j) (AD (9 + j), ctC Z AD (mu M 11 j 0 x) (9 + j)) = wC Z AD (mu M 11 j 0 x) n := wC_set 11 j 0 x
  rw [ctC_cset hj, mu_s] at h
  exact h
theorem pC_12 {Z : gZ} {AD : Nat → Nat} {M : St} {n : Nat} {j : Nat} {x : Int32} (hj : j < 17) : (wC Z AD M n).set (9 + j) (AD (9 + j), .inr (1, [.int (M 8 j 0), .int (M 9 j 0), .int (M 10 j 0), .int (M 11 j 0), .int x, .int (M 13 j 0)])) = wC Z AD (mu M 12 j 0 x) n := by
  have h : (wC Z AD M n).set (9 + j) (AD (9 + j), ctC Z AD (mu M 12 j 0 x) (9 + j)) = wC Z AD (mu M 12 j 0 x) n := wC_set 12 j 0 x
  rw [ctC_cset hj, mu_s] at h
  exact h
theorem pC_13 {Z : gZ} {AD : Nat → Nat} {M : St} {n : Nat} {j : Nat} {x : Int32} (hj : j < 17) : (wC Z AD M n).set (9 + j) (AD (9 + j), .inr (1, [.int (M 8 j 0), .int (M 9 j 0), .int (M 10 j 0), .int (M 11 j 0), .int (M 12 j 0), .int x])) = wC Z AD (mu M 13 j 0 x) n := by
  have h : (wC Z AD M n).set (9 + j) (AD (9 + j), ctC Z AD (mu M 13 j 0 x) (9 + j)) = wC Z AD (mu M 13 j 0 x) n := wC_set 13 j 0 x
  rw [ctC_cset hj, mu_s] at h
  exact h
theorem ctC_memb {Z : gZ} {AD : Nat → Nat} {M : St} {j : Nat} (hj : j < 16) : ctC Z AD M (26 + j) = .inr (3, [.ref (AD (9 + j)), .ref (AD (42 + j)), .int (M 14 j 0)]) := by
  match j, hj with
  | 0, _ => rfl
  | 1, _ => rfl
  | 2, _ => rfl
  | 3, _ => rfl
  | 4, _ => rfl
  | 5, _ => rfl
  | 6, _ => rfl
  | 7, _ => rfl
  | 8, _ => rfl
  | 9, _ => rfl
  | 10, _ => rfl
  | 11, _ => rfl
  | 12, _ => rfl
  | 13, _ => rfl
  | 14, _ => rfl
  | 15, _ => rfl
  | q + 16, h => exact absurd h (by omega)
theorem gC_memb {Z : gZ} {AD : Nat → Nat} {M : St} {n : Nat} {j : Nat} (hj : j < 16) (hn : 78 ≤ n) : (wC Z AD M n)[26 + j]? = some (AD (26 + j), .inr (3, [.ref (AD (9 + j)), .ref (AD (42 + j)), .int (M 14 j 0)])) := wm_get2 (by omega) (ctC_memb hj)
theorem pC_14 {Z : gZ} {AD : Nat → Nat} {M : St} {n : Nat} {j : Nat} {x : Int32} (hj : j < 16) : (wC Z AD M n).set (26 + j) (AD (26 + j), .inr (3, [.ref (AD (9 + j)), .ref (AD (42 + j)), .int x])) = wC Z AD (mu M 14 j 0 x) n := by
  have h : (wC Z AD M n).set (26 + j) (AD (26 + j), ctC Z AD (mu M 14 j 0 x) (26 + j)) = wC Z AD (mu M 14 j 0 x) n := wC_set 14 j 0 x
  rw [ctC_memb hj, mu_s] at h
  exact h
theorem ctC_tabl {Z : gZ} {AD : Nat → Nat} {M : St} {t : Nat} (ht : t < 18) : ctC Z AD M (42 + t) = .inr (5, [.int (if t < 16 then 4 else 3), .ref (AD (60 + t)), .int (M 15 t 0)]) := by
  match t, ht with
  | 0, _ => rfl
  | 1, _ => rfl
  | 2, _ => rfl
  | 3, _ => rfl
  | 4, _ => rfl
  | 5, _ => rfl
  | 6, _ => rfl
  | 7, _ => rfl
  | 8, _ => rfl
  | 9, _ => rfl
  | 10, _ => rfl
  | 11, _ => rfl
  | 12, _ => rfl
  | 13, _ => rfl
  | 14, _ => rfl
  | 15, _ => rfl
  | 16, _ => rfl
  | 17, _ => rfl
  | q + 18, h => exact absurd h (by omega)
theorem gC_tabl {Z : gZ} {AD : Nat → Nat} {M : St} {n : Nat} {t : Nat} (ht : t < 18) (hn : 78 ≤ n) : (wC Z AD M n)[42 + t]? = some (AD (42 + t), .inr (5, [.int (if t < 16 then 4 else 3), .ref (AD (60 + t)), .int (M 15 t 0)])) := wm_get2 (by omega) (ctC_tabl ht)
theorem pC_15 {Z : gZ} {AD : Nat → Nat} {M : St} {n : Nat} {t : Nat} {x : Int32} (ht : t < 18) : (wC Z AD M n).set (42 + t) (AD (42 + t), .inr (5, [.int (if t < 16 then 4 else 3), .ref (AD (60 + t)), .int x])) = wC Z AD (mu M 15 t 0 x) n := by
  have h : (wC Z AD M n).set (42 + t) (AD (42 + t), ctC Z AD (mu M 15 t 0 x) (42 + t)) = wC Z AD (mu M 15 t 0 x) n := wC_set 15 t 0 x
  rw [ctC_tabl ht, mu_s] at h
  exact h
theorem ctC_cell {Z : gZ} {AD : Nat → Nat} {M : St} {t : Nat} (ht : t < 18) : ctC Z AD M (60 + t) = .inl (Z.2.1, (if t < 16 then 160 else 90), .inl (M 16 t)) := by
  match t, ht with
  | 0, _ => rfl
  | 1, _ => rfl
  | 2, _ => rfl
  | 3, _ => rfl
  | 4, _ => rfl
  | 5, _ => rfl
  | 6, _ => rfl
  | 7, _ => rfl
  | 8, _ => rfl
  | 9, _ => rfl
  | 10, _ => rfl
  | 11, _ => rfl
  | 12, _ => rfl
  | 13, _ => rfl
  | 14, _ => rfl
  | 15, _ => rfl
  | 16, _ => rfl
  | 17, _ => rfl
  | q + 18, h => exact absurd h (by omega)
theorem gC_cell {Z : gZ} {AD : Nat → Nat} {M : St} {n : Nat} {t : Nat} (ht : t < 18) (hn : 78 ≤ n) : (wC Z AD M n)[60 + t]? = some (AD (60 + t), .inl (Z.2.1, (if t < 16 then 160 else 90), .inl (M 16 t))) := wm_get2 (by omega) (ctC_cell ht)
theorem ctC_stat {Z : gZ} {AD : Nat → Nat} {M : St} {i : Nat} : ctC Z AD M (78 + i) = .inr (4, [.int (M 0 i 0), .int (M 0 i 1), .int (M 0 i 2), .int (M 0 i 3), .int (M 0 i 4), .int (M 0 i 5)]) := by
  unfold ctC
  rw [if_neg (by omega), if_neg (by omega), if_neg (by omega), if_neg (by omega), if_neg (by omega), if_neg (by omega), if_neg (by omega), if_neg (by omega), if_neg (by omega), show 78 + i - 78 = i by omega]
theorem gC_stat {Z : gZ} {AD : Nat → Nat} {M : St} {n i : Nat} (hn : 78 + i < n) : (wC Z AD M n)[78 + i]? = some (AD (78 + i), .inr (4, [.int (M 0 i 0), .int (M 0 i 1), .int (M 0 i 2), .int (M 0 i 3), .int (M 0 i 4), .int (M 0 i 5)])) := wm_get2 hn ctC_stat
theorem pC_16 {Z : gZ} {AD : Nat → Nat} {M : St} {n t i : Nat} {x : Int32} (ht : t < 18) : (wC Z AD M n).set (60 + t) (AD (60 + t), .inl (Z.2.1, (if t < 16 then 160 else 90), .inl (upd (M 16 t) i x))) = wC Z AD (mu M 16 t i x) n := by
  have h : (wC Z AD M n).set (60 + t) (AD (60 + t), ctC Z AD (mu M 16 t i x) (60 + t)) = wC Z AD (mu M 16 t i x) n := wC_set 16 t i x
  rw [ctC_cell ht, mu_r] at h
  exact h
theorem pC_17 {Z : gZ} {AD : Nat → Nat} {M : St} {n c i : Nat} {x : Int32} {r : Option Nat} (hc : c < 2) (hr : (if x = 0 then none else some (AD (78 + i))) = r) : (wC Z AD M n).set (3 + c) (AD (3 + c), .inl (Z.2.2.2, 12, .inr (.inr (.inr (.inr (va_up (fun i => if M 17 c i = 0 then none else some (AD (78 + i))) i r)))))) = wC Z AD (mu M 17 c i x) n := by
  have h : (wC Z AD M n).set (3 + c) (AD (3 + c), ctC Z AD (mu M 17 c i x) (3 + c)) = wC Z AD (mu M 17 c i x) n := wC_set 17 c i x
  rw [ctC_sarr hc] at h
  rw [← h]
  congr 9
  funext j
  subst hr
  by_cases hj : j = i
  · subst hj
    simp [va_up, mu_s]
  · simp [va_up, hj, mu_j hj]
/-- the reference's cells. 0 itself; 1 air; 2..5 turns, stand, aerial, ears; 6+c its states; 8+c crystal, 10+c lines, 12+c log, 14+c mail -/
def ctR (Z : gZ) (AD : Nat → Nat) (M : St) (k : Nat) : va_E :=
  if k < 1 then .inr (8, [.int (M 1 0 0), .int (M 2 0 0), .int (M 3 0 0), .ref (AD 1), .ref (AD 2), .ref (AD 3), .ref (AD 4), .ref (AD 5), .ref (AD 6), .ref (AD 7)])
  else if k < 2 then .inl (Z.2.1, 72, .inl (M 0 0))
  else if k < 6 then .inl (Z.2.1, 8, .inl (M (k + 2) 0))
  else if k < 8 then .inr (7, [.int (M 8 (k - 6) 0), .int (M 9 (k - 6) 0), .int (M 10 (k - 6) 0), .int (M 11 (k - 6) 0), .ref (AD (k + 2)), .ref (AD (k + 4)), .ref (AD (k + 6)), .ref (AD (k + 8)), .ref (AD 0)])
  else if k < 10 then .inl (Z.2.1, 8, .inl (M 12 (k - 8)))
  else if k < 12 then .inl (Z.2.1, 8, .inl (M 13 (k - 10)))
  else if k < 14 then .inl (Z.2.1, 1280, .inl (M 14 (k - 12)))
  else .inl (Z.2.1, 60, .inl (M 15 (k - 14)))
def owR (f i : Nat) : Nat := if f = 0 then 1 else if f < 4 then 0 else if f < 8 then f - 2 else if f < 12 then 6 + i else if f = 12 then 8 + i else if f = 13 then 10 + i else if f = 14 then 12 + i else 14 + i
abbrev wR (Z : gZ) (AD : Nat → Nat) (M : St) (n : Nat) : va_W := wm AD (ctR Z AD M) n
theorem ctR_ext {Z : gZ} {AD : Nat → Nat} {M M' : St} {k : Nat} (h : ∀ f i, owR f i = k → M' f i = M f i) : ctR Z AD M' k = ctR Z AD M k := by
  unfold ctR
  by_cases h0 : k < 1
  · have hk : k = 0 := by omega
    subst hk
    rw [if_pos h0, if_pos h0, h 1 0 rfl, h 2 0 rfl, h 3 0 rfl]
  rw [if_neg h0, if_neg h0]
  by_cases h1 : k < 2
  · have hk : k = 1 := by omega
    subst hk
    rw [if_pos h1, if_pos h1, h 0 0 rfl]
  rw [if_neg h1, if_neg h1]
  by_cases h2 : k < 6
  · rw [if_pos h2, if_pos h2, h (k + 2) 0 (by unfold owR; rw [if_neg (by omega), if_neg (by omega), if_pos (by omega)]; omega)]
  rw [if_neg h2, if_neg h2]
  by_cases h3 : k < 8
  · rw [if_pos h3, if_pos h3, h 8 (k - 6) (show 6 + (k - 6) = k by omega), h 9 (k - 6) (show 6 + (k - 6) = k by omega), h 10 (k - 6) (show 6 + (k - 6) = k by omega), h 11 (k - 6) (show 6 + (k - 6) = k by omega)]
  rw [if_neg h3, if_neg h3]
  by_cases h4 : k < 10
  · rw [if_pos h4, if_pos h4, h 12 (k - 8) (show 8 + (k - 8) = k by omega)]
  rw [if_neg h4, if_neg h4]
  by_cases h5 : k < 12
  · rw [if_pos h5, if_pos h5, h 13 (k - 10) (show 10 + (k - 10) = k by omega)]
  rw [if_neg h5, if_neg h5]
  by_cases h6 : k < 14
  · rw [if_pos h6, if_pos h6, h 14 (k - 12) (show 12 + (k - 12) = k by omega)]
  rw [if_neg h6, if_neg h6, h 15 (k - 14) (show 14 + (k - 14) = k by omega)]
theorem wR_set {Z : gZ} {AD : Nat → Nat} {M : St} {n : Nat} (f i j : Nat) (v : Int32) : (wR Z AD M n).set (owR f i) (AD (owR f i), ctR Z AD (mu M f i j v) (owR f i)) = wR Z AD (mu M f i j v) n :=
  wm_set (fun b hb => ctR_ext (fun g a hg => mu_ne (fun ⟨q1, q2⟩ => hb (by rw [← hg, q1, q2]))))
theorem ctR_model {Z : gZ} {AD : Nat → Nat} {M : St} : ctR Z AD M (0) = .inr (8, [.int (M 1 0 0), .int (M 2 0 0), .int (M 3 0 0), .ref (AD 1), .ref (AD 2), .ref (AD 3), .ref (AD 4), .ref (AD 5), .ref (AD 6), .ref (AD 7)]) := rfl
theorem gR_model {Z : gZ} {AD : Nat → Nat} {M : St} {n : Nat} (hn : 16 ≤ n) : (wR Z AD M n)[0]? = some (AD (0), .inr (8, [.int (M 1 0 0), .int (M 2 0 0), .int (M 3 0 0), .ref (AD 1), .ref (AD 2), .ref (AD 3), .ref (AD 4), .ref (AD 5), .ref (AD 6), .ref (AD 7)])) := wm_get2 (by omega) (ctR_model)
theorem pR_1 {Z : gZ} {AD : Nat → Nat} {M : St} {n : Nat} {x : Int32} : (wR Z AD M n).set (0) (AD (0), .inr (8, [.int x, .int (M 2 0 0), .int (M 3 0 0), .ref (AD 1), .ref (AD 2), .ref (AD 3), .ref (AD 4), .ref (AD 5), .ref (AD 6), .ref (AD 7)])) = wR Z AD (mu M 1 0 0 x) n := by
  have h : (wR Z AD M n).set (0) (AD (0), ctR Z AD (mu M 1 0 0 x) (0)) = wR Z AD (mu M 1 0 0 x) n := wR_set 1 0 0 x
  rw [ctR_model, mu_s] at h
  exact h
theorem pR_2 {Z : gZ} {AD : Nat → Nat} {M : St} {n : Nat} {x : Int32} : (wR Z AD M n).set (0) (AD (0), .inr (8, [.int (M 1 0 0), .int x, .int (M 3 0 0), .ref (AD 1), .ref (AD 2), .ref (AD 3), .ref (AD 4), .ref (AD 5), .ref (AD 6), .ref (AD 7)])) = wR Z AD (mu M 2 0 0 x) n := by
  have h : (wR Z AD M n).set (0) (AD (0), ctR Z AD (mu M 2 0 0 x) (0)) = wR Z AD (mu M 2 0 0 x) n := wR_set 2 0 0 x
  rw [ctR_model, mu_s] at h
  exact h
theorem pR_3 {Z : gZ} {AD : Nat → Nat} {M : St} {n : Nat} {x : Int32} : (wR Z AD M n).set (0) (AD (0), .inr (8, [.int (M 1 0 0), .int (M 2 0 0), .int x, .ref (AD 1), .ref (AD 2), .ref (AD 3), .ref (AD 4), .ref (AD 5), .ref (AD 6), .ref (AD 7)])) = wR Z AD (mu M 3 0 0 x) n := by
  have h : (wR Z AD M n).set (0) (AD (0), ctR Z AD (mu M 3 0 0 x) (0)) = wR Z AD (mu M 3 0 0 x) n := wR_set 3 0 0 x
  rw [ctR_model, mu_s] at h
  exact h
theorem ctR_air {Z : gZ} {AD : Nat → Nat} {M : St} : ctR Z AD M (1) = .inl (Z.2.1, 72, .inl (M 0 0)) := rfl
theorem gR_air {Z : gZ} {AD : Nat → Nat} {M : St} {n : Nat} (hn : 16 ≤ n) : (wR Z AD M n)[1]? = some (AD (1), .inl (Z.2.1, 72, .inl (M 0 0))) := wm_get2 (by omega) (ctR_air)
theorem ctR_turns {Z : gZ} {AD : Nat → Nat} {M : St} : ctR Z AD M (2) = .inl (Z.2.1, 8, .inl (M 4 0)) := rfl
theorem gR_turns {Z : gZ} {AD : Nat → Nat} {M : St} {n : Nat} (hn : 16 ≤ n) : (wR Z AD M n)[2]? = some (AD (2), .inl (Z.2.1, 8, .inl (M 4 0))) := wm_get2 (by omega) (ctR_turns)
theorem ctR_stand {Z : gZ} {AD : Nat → Nat} {M : St} : ctR Z AD M (3) = .inl (Z.2.1, 8, .inl (M 5 0)) := rfl
theorem gR_stand {Z : gZ} {AD : Nat → Nat} {M : St} {n : Nat} (hn : 16 ≤ n) : (wR Z AD M n)[3]? = some (AD (3), .inl (Z.2.1, 8, .inl (M 5 0))) := wm_get2 (by omega) (ctR_stand)
theorem ctR_aerial {Z : gZ} {AD : Nat → Nat} {M : St} : ctR Z AD M (4) = .inl (Z.2.1, 8, .inl (M 6 0)) := rfl
theorem gR_aerial {Z : gZ} {AD : Nat → Nat} {M : St} {n : Nat} (hn : 16 ≤ n) : (wR Z AD M n)[4]? = some (AD (4), .inl (Z.2.1, 8, .inl (M 6 0))) := wm_get2 (by omega) (ctR_aerial)
theorem ctR_ears {Z : gZ} {AD : Nat → Nat} {M : St} : ctR Z AD M (5) = .inl (Z.2.1, 8, .inl (M 7 0)) := rfl
theorem gR_ears {Z : gZ} {AD : Nat → Nat} {M : St} {n : Nat} (hn : 16 ≤ n) : (wR Z AD M n)[5]? = some (AD (5), .inl (Z.2.1, 8, .inl (M 7 0))) := wm_get2 (by omega) (ctR_ears)
theorem ctR_state {Z : gZ} {AD : Nat → Nat} {M : St} {c : Nat} (hc : c < 2) : ctR Z AD M (6 + c) = .inr (7, [.int (M 8 c 0), .int (M 9 c 0), .int (M 10 c 0), .int (M 11 c 0), .ref (AD (8 + c)), .ref (AD (10 + c)), .ref (AD (12 + c)), .ref (AD (14 + c)), .ref (AD 0)]) := by
  match c, hc with
  | 0, _ => rfl
  | 1, _ => rfl
  | q + 2, h => exact absurd h (by omega)
theorem gR_state {Z : gZ} {AD : Nat → Nat} {M : St} {n : Nat} {c : Nat} (hc : c < 2) (hn : 16 ≤ n) : (wR Z AD M n)[6 + c]? = some (AD (6 + c), .inr (7, [.int (M 8 c 0), .int (M 9 c 0), .int (M 10 c 0), .int (M 11 c 0), .ref (AD (8 + c)), .ref (AD (10 + c)), .ref (AD (12 + c)), .ref (AD (14 + c)), .ref (AD 0)])) := wm_get2 (by omega) (ctR_state hc)
theorem pR_8 {Z : gZ} {AD : Nat → Nat} {M : St} {n : Nat} {c : Nat} {x : Int32} (hc : c < 2) : (wR Z AD M n).set (6 + c) (AD (6 + c), .inr (7, [.int x, .int (M 9 c 0), .int (M 10 c 0), .int (M 11 c 0), .ref (AD (8 + c)), .ref (AD (10 + c)), .ref (AD (12 + c)), .ref (AD (14 + c)), .ref (AD 0)])) = wR Z AD (mu M 8 c 0 x) n := by
  have h : (wR Z AD M n).set (6 + c) (AD (6 + c), ctR Z AD (mu M 8 c 0 x) (6 + c)) = wR Z AD (mu M 8 c 0 x) n := wR_set 8 c 0 x
  rw [ctR_state hc, mu_s] at h
  exact h
theorem pR_9 {Z : gZ} {AD : Nat → Nat} {M : St} {n : Nat} {c : Nat} {x : Int32} (hc : c < 2) : (wR Z AD M n).set (6 + c) (AD (6 + c), .inr (7, [.int (M 8 c 0), .int x, .int (M 10 c 0), .int (M 11 c 0), .ref (AD (8 + c)), .ref (AD (10 + c)), .ref (AD (12 + c)), .ref (AD (14 + c)), .ref (AD 0)])) = wR Z AD (mu M 9 c 0 x) n := by
  have h : (wR Z AD M n).set (6 + c) (AD (6 + c), ctR Z AD (mu M 9 c 0 x) (6 + c)) = wR Z AD (mu M 9 c 0 x) n := wR_set 9 c 0 x
  rw [ctR_state hc, mu_s] at h
  exact h
theorem pR_10 {Z : gZ} {AD : Nat → Nat} {M : St} {n : Nat} {c : Nat} {x : Int32} (hc : c < 2) : (wR Z AD M n).set (6 + c) (AD (6 + c), .inr (7, [.int (M 8 c 0), .int (M 9 c 0), .int x, .int (M 11 c 0), .ref (AD (8 + c)), .ref (AD (10 + c)), .ref (AD (12 + c)), .ref (AD (14 + c)), .ref (AD 0)])) = wR Z AD (mu M 10 c 0 x) n := by
  have h : (wR Z AD M n).set (6 + c) (AD (6 + c), ctR Z AD (mu M 10 c 0 x) (6 + c)) = wR Z AD (mu M 10 c 0 x) n := wR_set 10 c 0 x
  rw [ctR_state hc, mu_s] at h
  exact h
theorem pR_11 {Z : gZ} {AD : Nat → Nat} {M : St} {n : Nat} {c : Nat} {x : Int32} (hc : c < 2) : (wR Z AD M n).set (6 + c) (AD (6 + c), .inr (7, [.int (M 8 c 0), .int (M 9 c 0), .int (M 10 c 0), .int x, .ref (AD (8 + c)), .ref (AD (10 + c)), .ref (AD (12 + c)), .ref (AD (14 + c)), .ref (AD 0)])) = wR Z AD (mu M 11 c 0 x) n := by
  have h : (wR Z AD M n).set (6 + c) (AD (6 + c), ctR Z AD (mu M 11 c 0 x) (6 + c)) = wR Z AD (mu M 11 c 0 x) n := wR_set 11 c 0 x
  rw [ctR_state hc, mu_s] at h
  exact h
theorem ctR_crys {Z : gZ} {AD : Nat → Nat} {M : St} {c : Nat} (hc : c < 2) : ctR Z AD M (8 + c) = .inl (Z.2.1, 8, .inl (M 12 c)) := by
  match c, hc with
  | 0, _ => rfl
  | 1, _ => rfl
  | q + 2, h => exact absurd h (by omega)
theorem gR_crys {Z : gZ} {AD : Nat → Nat} {M : St} {n : Nat} {c : Nat} (hc : c < 2) (hn : 16 ≤ n) : (wR Z AD M n)[8 + c]? = some (AD (8 + c), .inl (Z.2.1, 8, .inl (M 12 c))) := wm_get2 (by omega) (ctR_crys hc)
theorem ctR_lines {Z : gZ} {AD : Nat → Nat} {M : St} {c : Nat} (hc : c < 2) : ctR Z AD M (10 + c) = .inl (Z.2.1, 8, .inl (M 13 c)) := by
  match c, hc with
  | 0, _ => rfl
  | 1, _ => rfl
  | q + 2, h => exact absurd h (by omega)
theorem gR_lines {Z : gZ} {AD : Nat → Nat} {M : St} {n : Nat} {c : Nat} (hc : c < 2) (hn : 16 ≤ n) : (wR Z AD M n)[10 + c]? = some (AD (10 + c), .inl (Z.2.1, 8, .inl (M 13 c))) := wm_get2 (by omega) (ctR_lines hc)
theorem ctR_log {Z : gZ} {AD : Nat → Nat} {M : St} {c : Nat} (hc : c < 2) : ctR Z AD M (12 + c) = .inl (Z.2.1, 1280, .inl (M 14 c)) := by
  match c, hc with
  | 0, _ => rfl
  | 1, _ => rfl
  | q + 2, h => exact absurd h (by omega)
theorem gR_log {Z : gZ} {AD : Nat → Nat} {M : St} {n : Nat} {c : Nat} (hc : c < 2) (hn : 16 ≤ n) : (wR Z AD M n)[12 + c]? = some (AD (12 + c), .inl (Z.2.1, 1280, .inl (M 14 c))) := wm_get2 (by omega) (ctR_log hc)
theorem ctR_mail {Z : gZ} {AD : Nat → Nat} {M : St} {c : Nat} (hc : c < 2) : ctR Z AD M (14 + c) = .inl (Z.2.1, 60, .inl (M 15 c)) := by
  match c, hc with
  | 0, _ => rfl
  | 1, _ => rfl
  | q + 2, h => exact absurd h (by omega)
theorem gR_mail {Z : gZ} {AD : Nat → Nat} {M : St} {n : Nat} {c : Nat} (hc : c < 2) (hn : 16 ≤ n) : (wR Z AD M n)[14 + c]? = some (AD (14 + c), .inl (Z.2.1, 60, .inl (M 15 c))) := wm_get2 (by omega) (ctR_mail hc)
theorem pR_0 {Z : gZ} {AD : Nat → Nat} {M : St} {n i : Nat} {x : Int32} : (wR Z AD M n).set (1) (AD (1), .inl (Z.2.1, 72, .inl (upd (M 0 0) i x))) = wR Z AD (mu M 0 0 i x) n := by
  have h : (wR Z AD M n).set (1) (AD (1), ctR Z AD (mu M 0 0 i x) (1)) = wR Z AD (mu M 0 0 i x) n := wR_set 0 0 i x
  rw [ctR_air, mu_r] at h
  exact h
theorem pR_4 {Z : gZ} {AD : Nat → Nat} {M : St} {n i : Nat} {x : Int32} : (wR Z AD M n).set (2) (AD (2), .inl (Z.2.1, 8, .inl (upd (M 4 0) i x))) = wR Z AD (mu M 4 0 i x) n := by
  have h : (wR Z AD M n).set (2) (AD (2), ctR Z AD (mu M 4 0 i x) (2)) = wR Z AD (mu M 4 0 i x) n := wR_set 4 0 i x
  rw [ctR_turns, mu_r] at h
  exact h
theorem pR_5 {Z : gZ} {AD : Nat → Nat} {M : St} {n i : Nat} {x : Int32} : (wR Z AD M n).set (3) (AD (3), .inl (Z.2.1, 8, .inl (upd (M 5 0) i x))) = wR Z AD (mu M 5 0 i x) n := by
  have h : (wR Z AD M n).set (3) (AD (3), ctR Z AD (mu M 5 0 i x) (3)) = wR Z AD (mu M 5 0 i x) n := wR_set 5 0 i x
  rw [ctR_stand, mu_r] at h
  exact h
theorem pR_6 {Z : gZ} {AD : Nat → Nat} {M : St} {n i : Nat} {x : Int32} : (wR Z AD M n).set (4) (AD (4), .inl (Z.2.1, 8, .inl (upd (M 6 0) i x))) = wR Z AD (mu M 6 0 i x) n := by
  have h : (wR Z AD M n).set (4) (AD (4), ctR Z AD (mu M 6 0 i x) (4)) = wR Z AD (mu M 6 0 i x) n := wR_set 6 0 i x
  rw [ctR_aerial, mu_r] at h
  exact h
theorem pR_7 {Z : gZ} {AD : Nat → Nat} {M : St} {n i : Nat} {x : Int32} : (wR Z AD M n).set (5) (AD (5), .inl (Z.2.1, 8, .inl (upd (M 7 0) i x))) = wR Z AD (mu M 7 0 i x) n := by
  have h : (wR Z AD M n).set (5) (AD (5), ctR Z AD (mu M 7 0 i x) (5)) = wR Z AD (mu M 7 0 i x) n := wR_set 7 0 i x
  rw [ctR_ears, mu_r] at h
  exact h
theorem pR_12 {Z : gZ} {AD : Nat → Nat} {M : St} {n c i : Nat} {x : Int32} (hc : c < 2) : (wR Z AD M n).set (8 + c) (AD (8 + c), .inl (Z.2.1, 8, .inl (upd (M 12 c) i x))) = wR Z AD (mu M 12 c i x) n := by
  have h : (wR Z AD M n).set (8 + c) (AD (8 + c), ctR Z AD (mu M 12 c i x) (8 + c)) = wR Z AD (mu M 12 c i x) n := wR_set 12 c i x
  rw [ctR_crys hc, mu_r] at h
  exact h
theorem pR_13 {Z : gZ} {AD : Nat → Nat} {M : St} {n c i : Nat} {x : Int32} (hc : c < 2) : (wR Z AD M n).set (10 + c) (AD (10 + c), .inl (Z.2.1, 8, .inl (upd (M 13 c) i x))) = wR Z AD (mu M 13 c i x) n := by
  have h : (wR Z AD M n).set (10 + c) (AD (10 + c), ctR Z AD (mu M 13 c i x) (10 + c)) = wR Z AD (mu M 13 c i x) n := wR_set 13 c i x
  rw [ctR_lines hc, mu_r] at h
  exact h
theorem pR_14 {Z : gZ} {AD : Nat → Nat} {M : St} {n c i : Nat} {x : Int32} (hc : c < 2) : (wR Z AD M n).set (12 + c) (AD (12 + c), .inl (Z.2.1, 1280, .inl (upd (M 14 c) i x))) = wR Z AD (mu M 14 c i x) n := by
  have h : (wR Z AD M n).set (12 + c) (AD (12 + c), ctR Z AD (mu M 14 c i x) (12 + c)) = wR Z AD (mu M 14 c i x) n := wR_set 14 c i x
  rw [ctR_log hc, mu_r] at h
  exact h
theorem pR_15 {Z : gZ} {AD : Nat → Nat} {M : St} {n c i : Nat} {x : Int32} (hc : c < 2) : (wR Z AD M n).set (14 + c) (AD (14 + c), .inl (Z.2.1, 60, .inl (upd (M 15 c) i x))) = wR Z AD (mu M 15 c i x) n := by
  have h : (wR Z AD M n).set (14 + c) (AD (14 + c), ctR Z AD (mu M 15 c i x) (14 + c)) = wR Z AD (mu M 15 c i x) n := wR_set 15 c i x
  rw [ctR_mail hc, mu_r] at h
  exact h
section GROWS2
variable {p : Program} {l : Launch} {e : Env} {R : Room} {s : State} {m : MethodId} {args : Array Value} {below : List Frame} {meth : Method} {c : Code} {H : Heap} {locs : List Loc} {cells slots : Nat} {Q : State → Prop}
variable {Z : gZ} {A : Nat → Prop} {ws ws' : va_W} {cc : ByteArray} {nL pc : Nat} {own : String} {ret : Option FieldType} {ls : Array Slot} {rest : List Value}
theorem gg_ialdN (F : gF Z p m s args meth c cc nL own ret) (G : gG Z A s ws H locs) {a q0 n : Nat} (k : Nat) {f : Nat → Int32} {i : Int32} (he : ws[q0]? = some (a, .inl (Z.2.1, n, .inl f))) (hi : i = nI k) (hk : k < n) (hn : n < 2147483648) (hdg : decode cc pc = .ok (.iaload, 1))
    (kk : W p l e R s m args below meth c H locs cells slots Q (F0 m (pc + 1) ls (.int (f k) :: rest))) : W p l e R s m args below meth c H locs cells slots Q (F0 m pc ls (.int i :: .ref a :: rest)) := by
  subst hi
  exact gg_iald F G he (vp_in_nI hk hn) (by rw [nI_clamp (Nat.lt_trans hk hn)]) hdg kk
theorem gg_iastN (F : gF Z p m s args meth c cc nL own ret) (G : gG Z A s ws H locs) {a q0 n : Nat} (k : Nat) {f : Nat → Int32} {i x : Int32} (he : ws[q0]? = some (a, .inl (Z.2.1, n, .inl f))) (hi : i = nI k) (hk : k < n) (hn : n < 2147483648) (hw : ws.set q0 (a, .inl (Z.2.1, n, .inl (upd f k x))) = ws') (hdg : decode cc pc = .ok (.iastore, 1))
    (kk : ∀ (H1 : Heap) (locs1 : List Loc), gG Z A s ws' H1 locs1 → W p l e R s m args below meth c H1 locs1 cells slots Q (F0 m (pc + 1) ls rest)) : W p l e R s m args below meth c H locs cells slots Q (F0 m pc ls (.int x :: .int i :: .ref a :: rest)) := by
  subst hi
  exact gg_iast F G he (vp_in_nI hk hn) (by rw [nI_clamp (Nat.lt_trans hk hn)]; exact hw) hdg kk
end GROWS2
end
section
theorem kY_X0_init : gY yX0_init cX0_init 2 none 0 := ⟨w1_31, w1_2, ⟨by decide +kernel, by decide +kernel⟩, by decide +kernel⟩
theorem kV_X0_init : yX0_init.name = "<init>" ∧ Cond.instanceMethod yX0_init ∈ gW := ⟨rfl, w1_30⟩
theorem kY_X0_copyFrom : gY yX0_copyFrom cX0_copyFrom 5 none 1 := ⟨w4_15, w1_2, ⟨by decide +kernel, by decide +kernel⟩, by decide +kernel⟩
theorem kV_X0_copyFrom : Cond.instanceMethod yX0_copyFrom ∈ gW ∧ Cond.selects yX0_copyFrom.cls yX0_copyFrom yX0_copyFrom ∈ gW := ⟨w4_13, w4_14⟩
theorem kY_X0_stationAt : gY yX0_stationAt cX0_stationAt 3 (some (.object "CrystalClub$Station")) 1 := ⟨w1_227, w1_2, ⟨by decide +kernel, by decide +kernel⟩, by decide +kernel⟩
theorem kV_X0_stationAt : Cond.instanceMethod yX0_stationAt ∈ gW ∧ Cond.selects yX0_stationAt.cls yX0_stationAt yX0_stationAt ∈ gW := ⟨w1_225, w1_226⟩
theorem kY_X0_memberAt : gY yX0_memberAt cX0_memberAt 3 (some (.object "CrystalClub$Member")) 1 := ⟨w1_189, w1_2, ⟨by decide +kernel, by decide +kernel⟩, by decide +kernel⟩
theorem kV_X0_memberAt : Cond.instanceMethod yX0_memberAt ∈ gW ∧ Cond.selects yX0_memberAt.cls yX0_memberAt yX0_memberAt ∈ gW := ⟨w1_187, w1_188⟩
theorem kY_X0_found : gY yX0_found cX0_found 3 (some .int) 1 := ⟨w2_171, w1_2, ⟨by decide +kernel, by decide +kernel⟩, by decide +kernel⟩
theorem kV_X0_found : Cond.instanceMethod yX0_found ∈ gW ∧ Cond.selects yX0_found.cls yX0_found yX0_found ∈ gW := ⟨w2_169, w2_170⟩
theorem kY_X0_admit : gY yX0_admit cX0_admit 5 (some .int) 2 := ⟨w2_184, w1_2, ⟨by decide +kernel, by decide +kernel⟩, by decide +kernel⟩
theorem kV_X0_admit : Cond.instanceMethod yX0_admit ∈ gW ∧ Cond.selects yX0_admit.cls yX0_admit yX0_admit ∈ gW := ⟨w2_182, w2_183⟩
theorem kY_X0_hearingOf : gY yX0_hearingOf cX0_hearingOf 5 (some (.object "CrystalClub$Hearing")) 2 := ⟨w3_67, w1_2, ⟨by decide +kernel, by decide +kernel⟩, by decide +kernel⟩
theorem kV_X0_hearingOf : Cond.instanceMethod yX0_hearingOf ∈ gW ∧ Cond.selects yX0_hearingOf.cls yX0_hearingOf yX0_hearingOf ∈ gW := ⟨w3_65, w3_66⟩
theorem kY_X0_bestDial : gY yX0_bestDial cX0_bestDial 7 (some .int) 2 := ⟨w3_224, w1_2, ⟨by decide +kernel, by decide +kernel⟩, by decide +kernel⟩
theorem kV_X0_bestDial : Cond.instanceMethod yX0_bestDial ∈ gW ∧ Cond.selects yX0_bestDial.cls yX0_bestDial yX0_bestDial ∈ gW := ⟨w3_222, w3_223⟩
theorem kY_X0_keepsApart : gY yX0_keepsApart cX0_keepsApart 9 (some .boolean) 4 := ⟨w4_4, w1_2, ⟨by decide +kernel, by decide +kernel⟩, by decide +kernel⟩
theorem kV_X0_keepsApart : Cond.instanceMethod yX0_keepsApart ∈ gW ∧ Cond.selects yX0_keepsApart.cls yX0_keepsApart yX0_keepsApart ∈ gW := ⟨w4_2, w4_3⟩
theorem kY_X0_passHours : gY yX0_passHours cX0_passHours 4 (some .int) 1 := ⟨w3_134, w1_2, ⟨by decide +kernel, by decide +kernel⟩, by decide +kernel⟩
theorem kV_X0_passHours : Cond.instanceMethod yX0_passHours ∈ gW ∧ Cond.selects yX0_passHours.cls yX0_passHours yX0_passHours ∈ gW := ⟨w3_132, w3_133⟩
theorem kY_X0_writeLines : gY yX0_writeLines cX0_writeLines 4 (some .int) 0 := ⟨w3_138, w1_2, ⟨by decide +kernel, by decide +kernel⟩, by decide +kernel⟩
theorem kV_X0_writeLines : Cond.instanceMethod yX0_writeLines ∈ gW ∧ Cond.selects yX0_writeLines.cls yX0_writeLines yX0_writeLines ∈ gW := ⟨w3_137, ws_11⟩
theorem kY_X0_writeLine : gY yX0_writeLine cX0_writeLine 4 (some .boolean) 1 := ⟨w3_143, w1_2, ⟨by decide +kernel, by decide +kernel⟩, by decide +kernel⟩
theorem kV_X0_writeLine : Cond.instanceMethod yX0_writeLine ∈ gW ∧ Cond.selects yX0_writeLine.cls yX0_writeLine yX0_writeLine ∈ gW := ⟨w3_142, ws_12⟩
theorem kY_X0_wearCrystals : gY yX0_wearCrystals cX0_wearCrystals 3 none 0 := ⟨w3_158, w1_2, ⟨by decide +kernel, by decide +kernel⟩, by decide +kernel⟩
theorem kV_X0_wearCrystals : Cond.instanceMethod yX0_wearCrystals ∈ gW ∧ Cond.selects yX0_wearCrystals.cls yX0_wearCrystals yX0_wearCrystals ∈ gW := ⟨w3_157, ws_13⟩
theorem kY_X0_answerLetters : gY yX0_answerLetters cX0_answerLetters 3 none 0 := ⟨w3_166, w1_2, ⟨by decide +kernel, by decide +kernel⟩, by decide +kernel⟩
theorem kV_X0_answerLetters : Cond.instanceMethod yX0_answerLetters ∈ gW ∧ Cond.selects yX0_answerLetters.cls yX0_answerLetters yX0_answerLetters ∈ gW := ⟨w3_165, ws_14⟩
theorem kY_X0_answer : gY yX0_answer cX0_answer 4 none 2 := ⟨w3_175, w1_2, ⟨by decide +kernel, by decide +kernel⟩, by decide +kernel⟩
theorem kV_X0_answer : Cond.instanceMethod yX0_answer ∈ gW ∧ Cond.selects yX0_answer.cls yX0_answer yX0_answer ∈ gW := ⟨w3_174, ws_15⟩
theorem kY_X0_hasLetterOf : gY yX0_hasLetterOf cX0_hasLetterOf 4 (some .boolean) 2 := ⟨w3_104, w1_2, ⟨by decide +kernel, by decide +kernel⟩, by decide +kernel⟩
theorem kV_X0_hasLetterOf : Cond.instanceMethod yX0_hasLetterOf ∈ gW ∧ Cond.selects yX0_hasLetterOf.cls yX0_hasLetterOf yX0_hasLetterOf ∈ gW := ⟨w3_102, w3_103⟩
theorem kY_X0_send : gY yX0_send cX0_send 7 (some .int) 2 := ⟨w3_114, w1_2, ⟨by decide +kernel, by decide +kernel⟩, by decide +kernel⟩
theorem kV_X0_send : Cond.instanceMethod yX0_send ∈ gW ∧ Cond.selects yX0_send.cls yX0_send yX0_send ∈ gW := ⟨w3_112, w3_113⟩
theorem kY_X0_scoreOf : gY yX0_scoreOf cX0_scoreOf 6 (some .int) 1 := ⟨w2_35, w1_2, ⟨by decide +kernel, by decide +kernel⟩, by decide +kernel⟩
theorem kV_X0_scoreOf : Cond.instanceMethod yX0_scoreOf ∈ gW ∧ Cond.selects yX0_scoreOf.cls yX0_scoreOf yX0_scoreOf ∈ gW := ⟨w2_34, ws_5⟩
theorem kY_X0_memberAtPlace : gY yX0_memberAtPlace cX0_memberAtPlace 3 (some .int) 1 := ⟨w3_198, w1_2, ⟨by decide +kernel, by decide +kernel⟩, by decide +kernel⟩
theorem kV_X0_memberAtPlace : Cond.instanceMethod yX0_memberAtPlace ∈ gW ∧ Cond.selects yX0_memberAtPlace.cls yX0_memberAtPlace yX0_memberAtPlace ∈ gW := ⟨w3_196, w3_197⟩
theorem kY_X0_leadersOf : gY yX0_leadersOf cX0_leadersOf 4 (some .int) 1 := ⟨w3_202, w1_2, ⟨by decide +kernel, by decide +kernel⟩, by decide +kernel⟩
theorem kV_X0_leadersOf : Cond.instanceMethod yX0_leadersOf ∈ gW ∧ Cond.selects yX0_leadersOf.cls yX0_leadersOf yX0_leadersOf ∈ gW := ⟨w3_201, ws_16⟩
theorem kY_X0_leads : gY yX0_leads cX0_leads 7 (some .boolean) 2 := ⟨w3_206, w1_2, ⟨by decide +kernel, by decide +kernel⟩, by decide +kernel⟩
theorem kV_X0_leads : Cond.instanceMethod yX0_leads ∈ gW ∧ Cond.selects yX0_leads.cls yX0_leads yX0_leads ∈ gW := ⟨w3_205, ws_17⟩
theorem kY_X0_tellStation : gY yX0_tellStation cX0_tellStation 4 (some .int) 2 := ⟨w2_4, w1_2, ⟨by decide +kernel, by decide +kernel⟩, by decide +kernel⟩
theorem kV_X0_tellStation : Cond.instanceMethod yX0_tellStation ∈ gW ∧ Cond.selects yX0_tellStation.cls yX0_tellStation yX0_tellStation ∈ gW := ⟨w2_2, w2_3⟩
theorem kY_X0_membersWithCardOf : gY yX0_membersWithCardOf cX0_membersWithCardOf 5 (some .int) 1 := ⟨w2_12, w1_2, ⟨by decide +kernel, by decide +kernel⟩, by decide +kernel⟩
theorem kV_X0_membersWithCardOf : Cond.instanceMethod yX0_membersWithCardOf ∈ gW ∧ Cond.selects yX0_membersWithCardOf.cls yX0_membersWithCardOf yX0_membersWithCardOf ∈ gW := ⟨w2_11, ws_3⟩
theorem kY_X0_tellMember : gY yX0_tellMember cX0_tellMember 4 (some .int) 2 := ⟨w2_25, w1_2, ⟨by decide +kernel, by decide +kernel⟩, by decide +kernel⟩
theorem kV_X0_tellMember : Cond.instanceMethod yX0_tellMember ∈ gW ∧ Cond.selects yX0_tellMember.cls yX0_tellMember yX0_tellMember ∈ gW := ⟨w2_23, w2_24⟩
theorem kY_X0_tellCount : gY yX0_tellCount cX0_tellCount 2 (some .int) 1 := ⟨w1_219, w1_2, ⟨by decide +kernel, by decide +kernel⟩, by decide +kernel⟩
theorem kV_X0_tellCount : Cond.instanceMethod yX0_tellCount ∈ gW ∧ Cond.selects yX0_tellCount.cls yX0_tellCount yX0_tellCount ∈ gW := ⟨w1_217, w1_218⟩
theorem kY_X0_stationsOnAir : gY yX0_stationsOnAir cX0_stationsOnAir 4 (some .int) 0 := ⟨w1_223, w1_2, ⟨by decide +kernel, by decide +kernel⟩, by decide +kernel⟩
theorem kV_X0_stationsOnAir : Cond.instanceMethod yX0_stationsOnAir ∈ gW ∧ Cond.selects yX0_stationsOnAir.cls yX0_stationsOnAir yX0_stationsOnAir ∈ gW := ⟨w1_222, ws_1⟩
theorem kY_X0_listeners : gY yX0_listeners cX0_listeners 4 (some .int) 0 := ⟨w1_235, w1_2, ⟨by decide +kernel, by decide +kernel⟩, by decide +kernel⟩
theorem kV_X0_listeners : Cond.instanceMethod yX0_listeners ∈ gW ∧ Cond.selects yX0_listeners.cls yX0_listeners yX0_listeners ∈ gW := ⟨w1_234, ws_2⟩
theorem kY_X0_allLines : gY yX0_allLines cX0_allLines 4 (some .int) 0 := ⟨w1_185, w1_2, ⟨by decide +kernel, by decide +kernel⟩, by decide +kernel⟩
theorem kV_X0_allLines : Cond.instanceMethod yX0_allLines ∈ gW ∧ Cond.selects yX0_allLines.cls yX0_allLines yX0_allLines ∈ gW := ⟨w1_183, w1_184⟩
theorem kY_X0_confirmedLines : gY yX0_confirmedLines cX0_confirmedLines 1 (some .int) 0 := ⟨w2_0, w1_2, ⟨by decide +kernel, by decide +kernel⟩, by decide +kernel⟩
theorem kV_X0_confirmedLines : Cond.instanceMethod yX0_confirmedLines ∈ gW ∧ Cond.selects yX0_confirmedLines.cls yX0_confirmedLines yX0_confirmedLines ∈ gW := ⟨w1_238, w1_239⟩
theorem kY_X0_allStrengths : gY yX0_allStrengths cX0_allStrengths 1 (some .int) 0 := ⟨w1_193, w1_2, ⟨by decide +kernel, by decide +kernel⟩, by decide +kernel⟩
theorem kV_X0_allStrengths : Cond.instanceMethod yX0_allStrengths ∈ gW ∧ Cond.selects yX0_allStrengths.cls yX0_allStrengths yX0_allStrengths ∈ gW := ⟨w1_191, w1_192⟩
theorem kY_X0_sumOfLogs : gY yX0_sumOfLogs cX0_sumOfLogs 5 (some .int) 1 := ⟨w1_197, w1_2, ⟨by decide +kernel, by decide +kernel⟩, by decide +kernel⟩
theorem kV_X0_sumOfLogs : Cond.instanceMethod yX0_sumOfLogs ∈ gW ∧ Cond.selects yX0_sumOfLogs.cls yX0_sumOfLogs yX0_sumOfLogs ∈ gW := ⟨w1_196, ws_0⟩
theorem kY_X0_checksum : gY yX0_checksum cX0_checksum 5 (some .long) 0 := ⟨w1_213, w1_2, ⟨by decide +kernel, by decide +kernel⟩, by decide +kernel⟩
theorem kV_X0_checksum : Cond.instanceMethod yX0_checksum ∈ gW ∧ Cond.selects yX0_checksum.cls yX0_checksum yX0_checksum ∈ gW := ⟨w1_211, w1_212⟩
theorem kY_X0_withMember : gY yX0_withMember cX0_withMember 7 (some .long) 2 := ⟨w2_21, w1_2, ⟨by decide +kernel, by decide +kernel⟩, by decide +kernel⟩
theorem kV_X0_withMember : Cond.instanceMethod yX0_withMember ∈ gW ∧ Cond.selects yX0_withMember.cls yX0_withMember yX0_withMember ∈ gW := ⟨w2_20, ws_4⟩
theorem kY_X0_withRows : gY yX0_withRows cX0_withRows 7 (some .long) 2 := ⟨w2_38, w1_2, ⟨by decide +kernel, by decide +kernel⟩, by decide +kernel⟩
theorem kV_X0_withRows : Cond.static yX0_withRows ∈ gW := w2_37
theorem kY_X1_init : gY yX1_init cX1_init 1 none 0 := ⟨w1_46, w1_4, ⟨by decide +kernel, by decide +kernel⟩, by decide +kernel⟩
theorem kV_X1_init : yX1_init.name = "<init>" ∧ Cond.instanceMethod yX1_init ∈ gW := ⟨rfl, w1_45⟩
theorem kY_X1_tune : gY yX1_tune cX1_tune 3 none 2 := ⟨w2_192, w1_4, ⟨by decide +kernel, by decide +kernel⟩, by decide +kernel⟩
theorem kV_X1_tune : Cond.instanceMethod yX1_tune ∈ gW ∧ Cond.selects yX1_tune.cls yX1_tune yX1_tune ∈ gW := ⟨w2_190, w2_191⟩
theorem kY_X1_copyFrom : gY yX1_copyFrom cX1_copyFrom 2 none 1 := ⟨w3_220, w1_4, ⟨by decide +kernel, by decide +kernel⟩, by decide +kernel⟩
theorem kV_X1_copyFrom : Cond.instanceMethod yX1_copyFrom ∈ gW ∧ Cond.selects yX1_copyFrom.cls yX1_copyFrom yX1_copyFrom ∈ gW := ⟨w3_218, w3_219⟩
theorem kY_X1_strengthOf : gY yX1_strengthOf cX1_strengthOf 5 (some .int) 2 := ⟨w3_52, w1_4, ⟨by decide +kernel, by decide +kernel⟩, by decide +kernel⟩
theorem kV_X1_strengthOf : Cond.instanceMethod yX1_strengthOf ∈ gW ∧ Cond.selects yX1_strengthOf.cls yX1_strengthOf yX1_strengthOf ∈ gW := ⟨w3_50, w3_51⟩
theorem kY_X2_init : gY yX2_init cX2_init 1 none 0 := ⟨w1_124, w1_7, ⟨by decide +kernel, by decide +kernel⟩, by decide +kernel⟩
theorem kV_X2_init : yX2_init.name = "<init>" ∧ Cond.instanceMethod yX2_init ∈ gW := ⟨rfl, w1_123⟩
theorem kY_X2_clear : gY yX2_clear cX2_clear 1 none 0 := ⟨w3_71, w1_7, ⟨by decide +kernel, by decide +kernel⟩, by decide +kernel⟩
theorem kV_X2_clear : Cond.instanceMethod yX2_clear ∈ gW ∧ Cond.selects yX2_clear.cls yX2_clear yX2_clear ∈ gW := ⟨w3_69, w3_70⟩
theorem kY_X2_offer : gY yX2_offer cX2_offer 3 none 2 := ⟨w3_76, w1_7, ⟨by decide +kernel, by decide +kernel⟩, by decide +kernel⟩
theorem kV_X2_offer : Cond.instanceMethod yX2_offer ∈ gW ∧ Cond.selects yX2_offer.cls yX2_offer yX2_offer ∈ gW := ⟨w3_74, w3_75⟩
theorem kY_X2_verdict : gY yX2_verdict cX2_verdict 1 (some .int) 0 := ⟨w3_80, w1_7, ⟨by decide +kernel, by decide +kernel⟩, by decide +kernel⟩
theorem kV_X2_verdict : Cond.instanceMethod yX2_verdict ∈ gW ∧ Cond.selects yX2_verdict.cls yX2_verdict yX2_verdict ∈ gW := ⟨w3_78, w3_79⟩
theorem kY_X3_init : gY yX3_init cX3_init 1 none 0 := ⟨w1_40, w1_3, ⟨by decide +kernel, by decide +kernel⟩, by decide +kernel⟩
theorem kV_X3_init : yX3_init.name = "<init>" ∧ Cond.instanceMethod yX3_init ∈ gW := ⟨rfl, w1_39⟩
theorem kY_X3_begin : gY yX3_begin cX3_begin 3 none 2 := ⟨w2_188, w1_3, ⟨by decide +kernel, by decide +kernel⟩, by decide +kernel⟩
theorem kV_X3_begin : Cond.instanceMethod yX3_begin ∈ gW ∧ Cond.selects yX3_begin.cls yX3_begin yX3_begin ∈ gW := ⟨w2_186, w2_187⟩
theorem kY_X3_copyFrom : gY yX3_copyFrom cX3_copyFrom 2 none 1 := ⟨w4_19, w1_3, ⟨by decide +kernel, by decide +kernel⟩, by decide +kernel⟩
theorem kV_X3_copyFrom : Cond.instanceMethod yX3_copyFrom ∈ gW ∧ Cond.selects yX3_copyFrom.cls yX3_copyFrom yX3_copyFrom ∈ gW := ⟨w4_17, w4_18⟩
theorem kY_X3_hasLineOf : gY yX3_hasLineOf cX3_hasLineOf 4 (some .boolean) 2 := ⟨w3_149, w1_3, ⟨by decide +kernel, by decide +kernel⟩, by decide +kernel⟩
theorem kV_X3_hasLineOf : Cond.instanceMethod yX3_hasLineOf ∈ gW ∧ Cond.selects yX3_hasLineOf.cls yX3_hasLineOf yX3_hasLineOf ∈ gW := ⟨w3_147, w3_148⟩
theorem kY_X3_cards : gY yX3_cards cX3_cards 3 (some .int) 0 := ⟨w2_16, w1_3, ⟨by decide +kernel, by decide +kernel⟩, by decide +kernel⟩
theorem kV_X3_cards : Cond.instanceMethod yX3_cards ∈ gW ∧ Cond.selects yX3_cards.cls yX3_cards yX3_cards ∈ gW := ⟨w2_14, w2_15⟩
theorem kY_X3_addLine : gY yX3_addLine cX3_addLine 5 none 3 := ⟨w3_153, w1_3, ⟨by decide +kernel, by decide +kernel⟩, by decide +kernel⟩
theorem kV_X3_addLine : Cond.instanceMethod yX3_addLine ∈ gW ∧ Cond.selects yX3_addLine.cls yX3_addLine yX3_addLine ∈ gW := ⟨w3_151, w3_152⟩
theorem kY_X3_takeAnswer : gY yX3_takeAnswer cX3_takeAnswer 2 none 1 := ⟨w3_179, w1_3, ⟨by decide +kernel, by decide +kernel⟩, by decide +kernel⟩
theorem kV_X3_takeAnswer : Cond.instanceMethod yX3_takeAnswer ∈ gW ∧ Cond.selects yX3_takeAnswer.cls yX3_takeAnswer yX3_takeAnswer ∈ gW := ⟨w3_177, w3_178⟩
theorem kY_X3_wearCrystal : gY yX3_wearCrystal cX3_wearCrystal 1 none 0 := ⟨w3_162, w1_3, ⟨by decide +kernel, by decide +kernel⟩, by decide +kernel⟩
theorem kV_X3_wearCrystal : Cond.instanceMethod yX3_wearCrystal ∈ gW ∧ Cond.selects yX3_wearCrystal.cls yX3_wearCrystal yX3_wearCrystal ∈ gW := ⟨w3_160, w3_161⟩
theorem kY_X4_init : gY yX4_init cX4_init 7 none 6 := ⟨w2_141, w1_15, ⟨by decide +kernel, by decide +kernel⟩, by decide +kernel⟩
theorem kV_X4_init : yX4_init.name = "<init>" ∧ Cond.instanceMethod yX4_init ∈ gW := ⟨rfl, w2_140⟩
theorem kY_X4_isOnAir : gY yX4_isOnAir cX4_isOnAir 3 (some .boolean) 1 := ⟨w1_231, w1_15, ⟨by decide +kernel, by decide +kernel⟩, by decide +kernel⟩
theorem kV_X4_isOnAir : Cond.instanceMethod yX4_isOnAir ∈ gW ∧ Cond.selects yX4_isOnAir.cls yX4_isOnAir yX4_isOnAir ∈ gW := ⟨w1_229, w1_230⟩
theorem kY_X4_fading : gY yX4_fading cX4_fading 3 (some .int) 1 := ⟨w2_8, w1_15, ⟨by decide +kernel, by decide +kernel⟩, by decide +kernel⟩
theorem kV_X4_fading : Cond.instanceMethod yX4_fading ∈ gW ∧ Cond.selects yX4_fading.cls yX4_fading yX4_fading ∈ gW := ⟨w2_6, w2_7⟩
theorem kY_X4_daysOfMail : gY yX4_daysOfMail cX4_daysOfMail 1 (some .int) 0 := ⟨w3_118, w1_15, ⟨by decide +kernel, by decide +kernel⟩, by decide +kernel⟩
theorem kV_X4_daysOfMail : Cond.instanceMethod yX4_daysOfMail ∈ gW ∧ Cond.selects yX4_daysOfMail.cls yX4_daysOfMail yX4_daysOfMail ∈ gW := ⟨w3_116, w3_117⟩
theorem kY_X5_init : gY yX5_init cX5_init 3 none 2 := ⟨w1_82, w1_5, ⟨by decide +kernel, by decide +kernel⟩, by decide +kernel⟩
theorem kV_X5_init : yX5_init.name = "<init>" ∧ Cond.instanceMethod yX5_init ∈ gW := ⟨rfl, w1_81⟩
theorem kY_X5_isFull : gY yX5_isFull cX5_isFull 1 (some .boolean) 0 := ⟨w3_109, w1_5, ⟨by decide +kernel, by decide +kernel⟩, by decide +kernel⟩
theorem kV_X5_isFull : Cond.instanceMethod yX5_isFull ∈ gW ∧ Cond.selects yX5_isFull.cls yX5_isFull yX5_isFull ∈ gW := ⟨w3_107, w3_108⟩
theorem kY_X5_at : gY yX5_at cX5_at 4 (some .int) 2 := ⟨w1_205, w1_5, ⟨by decide +kernel, by decide +kernel⟩, by decide +kernel⟩
theorem kV_X5_at : Cond.instanceMethod yX5_at ∈ gW ∧ Cond.selects yX5_at.cls yX5_at yX5_at ∈ gW := ⟨w1_203, w1_204⟩
theorem kY_X5_put : gY yX5_put cX5_put 5 none 3 := ⟨w3_122, w1_5, ⟨by decide +kernel, by decide +kernel⟩, by decide +kernel⟩
theorem kV_X5_put : Cond.instanceMethod yX5_put ∈ gW ∧ Cond.selects yX5_put.cls yX5_put yX5_put ∈ gW := ⟨w3_120, w3_121⟩
theorem kY_X5_copyRow : gY yX5_copyRow cX5_copyRow 4 none 2 := ⟨w3_170, w1_5, ⟨by decide +kernel, by decide +kernel⟩, by decide +kernel⟩
theorem kV_X5_copyRow : Cond.instanceMethod yX5_copyRow ∈ gW ∧ Cond.selects yX5_copyRow.cls yX5_copyRow yX5_copyRow ∈ gW := ⟨w3_168, w3_169⟩
theorem kY_X5_copyFrom : gY yX5_copyFrom cX5_copyFrom 3 none 1 := ⟨w4_24, w1_5, ⟨by decide +kernel, by decide +kernel⟩, by decide +kernel⟩
theorem kV_X5_copyFrom : Cond.instanceMethod yX5_copyFrom ∈ gW ∧ Cond.selects yX5_copyFrom.cls yX5_copyFrom yX5_copyFrom ∈ gW := ⟨w4_22, w4_23⟩
theorem kY_X5_sum : gY yX5_sum cX5_sum 4 (some .int) 1 := ⟨w1_201, w1_5, ⟨by decide +kernel, by decide +kernel⟩, by decide +kernel⟩
theorem kV_X5_sum : Cond.instanceMethod yX5_sum ∈ gW ∧ Cond.selects yX5_sum.cls yX5_sum yX5_sum ∈ gW := ⟨w1_199, w1_200⟩
theorem kY_X6_init : gY yX6_init cX6_init 1 none 0 := ⟨w1_23, w1_1, ⟨by decide +kernel, by decide +kernel⟩, by decide +kernel⟩
theorem kV_X6_init : yX6_init.name = "<init>" ∧ Cond.instanceMethod yX6_init ∈ gW := ⟨rfl, w1_22⟩
theorem kY_X6_addStation : gY yX6_addStation cX6_addStation 7 (some .int) 6 := ⟨w2_48, w1_1, ⟨by decide +kernel, by decide +kernel⟩, by decide +kernel⟩
theorem kV_X6_addStation : Cond.instanceMethod yX6_addStation ∈ gW ∧ Cond.selects yX6_addStation.cls yX6_addStation yX6_addStation ∈ gW := ⟨w2_46, w2_47⟩
theorem kY_X6_join : gY yX6_join cX6_join 3 (some .int) 2 := ⟨w2_178, w1_1, ⟨by decide +kernel, by decide +kernel⟩, by decide +kernel⟩
theorem kV_X6_join : Cond.instanceMethod yX6_join ∈ gW ∧ Cond.selects yX6_join.cls yX6_join yX6_join ∈ gW := ⟨w2_176, w2_177⟩
theorem kY_X6_turn : gY yX6_turn cX6_turn 5 (some .int) 2 := ⟨w2_205, w1_1, ⟨by decide +kernel, by decide +kernel⟩, by decide +kernel⟩
theorem kV_X6_turn : Cond.instanceMethod yX6_turn ∈ gW ∧ Cond.selects yX6_turn.cls yX6_turn yX6_turn ∈ gW := ⟨w2_203, w2_204⟩
theorem kY_X6_wind : gY yX6_wind cX6_wind 5 (some .int) 2 := ⟨w2_239, w1_1, ⟨by decide +kernel, by decide +kernel⟩, by decide +kernel⟩
theorem kV_X6_wind : Cond.instanceMethod yX6_wind ∈ gW ∧ Cond.selects yX6_wind.cls yX6_wind yX6_wind ∈ gW := ⟨w2_237, w2_238⟩
theorem kY_X6_listen : gY yX6_listen cX6_listen 5 (some .boolean) 2 := ⟨w3_7, w1_1, ⟨by decide +kernel, by decide +kernel⟩, by decide +kernel⟩
theorem kV_X6_listen : Cond.instanceMethod yX6_listen ∈ gW ∧ Cond.selects yX6_listen.cls yX6_listen yX6_listen ∈ gW := ⟨w3_5, w3_6⟩
theorem kY_X6_renew : gY yX6_renew cX6_renew 4 (some .int) 1 := ⟨w3_14, w1_1, ⟨by decide +kernel, by decide +kernel⟩, by decide +kernel⟩
theorem kV_X6_renew : Cond.instanceMethod yX6_renew ∈ gW ∧ Cond.selects yX6_renew.cls yX6_renew yX6_renew ∈ gW := ⟨w3_12, w3_13⟩
theorem kY_X6_station : gY yX6_station cX6_station 3 (some .int) 2 := ⟨w3_21, w1_1, ⟨by decide +kernel, by decide +kernel⟩, by decide +kernel⟩
theorem kV_X6_station : Cond.instanceMethod yX6_station ∈ gW ∧ Cond.selects yX6_station.cls yX6_station yX6_station ∈ gW := ⟨w3_19, w3_20⟩
theorem kY_X6_member : gY yX6_member cX6_member 3 (some .int) 2 := ⟨w3_39, w1_1, ⟨by decide +kernel, by decide +kernel⟩, by decide +kernel⟩
theorem kV_X6_member : Cond.instanceMethod yX6_member ∈ gW ∧ Cond.selects yX6_member.cls yX6_member yX6_member ∈ gW := ⟨w3_37, w3_38⟩
theorem kY_X6_strength : gY yX6_strength cX6_strength 5 (some .int) 2 := ⟨w3_47, w1_1, ⟨by decide +kernel, by decide +kernel⟩, by decide +kernel⟩
theorem kV_X6_strength : Cond.instanceMethod yX6_strength ∈ gW ∧ Cond.selects yX6_strength.cls yX6_strength yX6_strength ∈ gW := ⟨w3_45, w3_46⟩
theorem kY_X6_hears : gY yX6_hears cX6_hears 2 (some .int) 1 := ⟨w3_63, w1_1, ⟨by decide +kernel, by decide +kernel⟩, by decide +kernel⟩
theorem kV_X6_hears : Cond.instanceMethod yX6_hears ∈ gW ∧ Cond.selects yX6_hears.cls yX6_hears yX6_hears ∈ gW := ⟨w3_61, w3_62⟩
theorem kY_X6_log : gY yX6_log cX6_log 5 (some .int) 3 := ⟨w3_87, w1_1, ⟨by decide +kernel, by decide +kernel⟩, by decide +kernel⟩
theorem kV_X6_log : Cond.instanceMethod yX6_log ∈ gW ∧ Cond.selects yX6_log.cls yX6_log yX6_log ∈ gW := ⟨w3_85, w3_86⟩
theorem kY_X6_write : gY yX6_write cX6_write 4 (some .int) 2 := ⟨w3_99, w1_1, ⟨by decide +kernel, by decide +kernel⟩, by decide +kernel⟩
theorem kV_X6_write : Cond.instanceMethod yX6_write ∈ gW ∧ Cond.selects yX6_write.cls yX6_write yX6_write ∈ gW := ⟨w3_97, w3_98⟩
theorem kY_X6_pass : gY yX6_pass cX6_pass 2 (some .int) 1 := ⟨w3_129, w1_1, ⟨by decide +kernel, by decide +kernel⟩, by decide +kernel⟩
theorem kV_X6_pass : Cond.instanceMethod yX6_pass ∈ gW ∧ Cond.selects yX6_pass.cls yX6_pass yX6_pass ∈ gW := ⟨w3_127, w3_128⟩
theorem kY_X6_count : gY yX6_count cX6_count 2 (some .int) 1 := ⟨w3_186, w1_1, ⟨by decide +kernel, by decide +kernel⟩, by decide +kernel⟩
theorem kV_X6_count : Cond.instanceMethod yX6_count ∈ gW ∧ Cond.selects yX6_count.cls yX6_count yX6_count ∈ gW := ⟨w3_184, w3_185⟩
theorem kY_X6_rank : gY yX6_rank cX6_rank 2 (some .int) 1 := ⟨w3_194, w1_1, ⟨by decide +kernel, by decide +kernel⟩, by decide +kernel⟩
theorem kV_X6_rank : Cond.instanceMethod yX6_rank ∈ gW ∧ Cond.selects yX6_rank.cls yX6_rank yX6_rank ∈ gW := ⟨w3_192, w3_193⟩
theorem kY_X6_dial : gY yX6_dial cX6_dial 4 (some .int) 2 := ⟨w3_216, w1_1, ⟨by decide +kernel, by decide +kernel⟩, by decide +kernel⟩
theorem kV_X6_dial : Cond.instanceMethod yX6_dial ∈ gW ∧ Cond.selects yX6_dial.cls yX6_dial yX6_dial ∈ gW := ⟨w3_214, w3_215⟩
theorem kY_X6_next : gY yX6_next cX6_next 5 (some .int) 2 := ⟨w3_232, w1_1, ⟨by decide +kernel, by decide +kernel⟩, by decide +kernel⟩
theorem kV_X6_next : Cond.instanceMethod yX6_next ∈ gW ∧ Cond.selects yX6_next.cls yX6_next yX6_next ∈ gW := ⟨w3_230, w3_231⟩
theorem kY_X6_apart : gY yX6_apart cX6_apart 8 (some .int) 3 := ⟨w3_239, w1_1, ⟨by decide +kernel, by decide +kernel⟩, by decide +kernel⟩
theorem kV_X6_apart : Cond.instanceMethod yX6_apart ∈ gW ∧ Cond.selects yX6_apart.cls yX6_apart yX6_apart ∈ gW := ⟨w3_237, w3_238⟩
theorem kY_X6_foresee : gY yX6_foresee cX6_foresee 4 (some .int) 2 := ⟨w4_11, w1_1, ⟨by decide +kernel, by decide +kernel⟩, by decide +kernel⟩
theorem kV_X6_foresee : Cond.instanceMethod yX6_foresee ∈ gW ∧ Cond.selects yX6_foresee.cls yX6_foresee yX6_foresee ∈ gW := ⟨w4_9, w4_10⟩
theorem kY_X6_mean : gY yX6_mean cX6_mean 2 (some .double) 0 := ⟨w1_181, w1_1, ⟨by decide +kernel, by decide +kernel⟩, by decide +kernel⟩
theorem kV_X6_mean : Cond.instanceMethod yX6_mean ∈ gW ∧ Cond.selects yX6_mean.cls yX6_mean yX6_mean ∈ gW := ⟨w1_179, w1_180⟩
theorem kY_X6_digest : gY yX6_digest cX6_digest 1 (some .long) 0 := ⟨w1_209, w1_1, ⟨by decide +kernel, by decide +kernel⟩, by decide +kernel⟩
theorem kV_X6_digest : Cond.instanceMethod yX6_digest ∈ gW ∧ Cond.selects yX6_digest.cls yX6_digest yX6_digest ∈ gW := ⟨w1_207, w1_208⟩
theorem kY_X6_isWithin : gY yX6_isWithin cX6_isWithin 3 (some .boolean) 3 := ⟨w2_51, w1_1, ⟨by decide +kernel, by decide +kernel⟩, by decide +kernel⟩
theorem kV_X6_isWithin : Cond.static yX6_isWithin ∈ gW := w2_50
theorem kY_X6_refuseUnlessWithin : gY yX6_refuseUnlessWithin cX6_refuseUnlessWithin 2 none 2 := ⟨w3_30, w1_1, ⟨by decide +kernel, by decide +kernel⟩, by decide +kernel⟩
theorem kV_X6_refuseUnlessWithin : Cond.static yX6_refuseUnlessWithin ∈ gW := w3_29
theorem kY_X6_stationOf : gY yX6_stationOf cX6_stationOf 3 (some (.object "CrystalClub$Station")) 1 := ⟨w3_25, w1_1, ⟨by decide +kernel, by decide +kernel⟩, by decide +kernel⟩
theorem kV_X6_stationOf : Cond.instanceMethod yX6_stationOf ∈ gW ∧ Cond.selects yX6_stationOf.cls yX6_stationOf yX6_stationOf ∈ gW := ⟨w3_24, ws_9⟩
theorem kY_X6_memberOf : gY yX6_memberOf cX6_memberOf 3 (some (.object "CrystalClub$Member")) 1 := ⟨w2_213, w1_1, ⟨by decide +kernel, by decide +kernel⟩, by decide +kernel⟩
theorem kV_X6_memberOf : Cond.instanceMethod yX6_memberOf ∈ gW ∧ Cond.selects yX6_memberOf.cls yX6_memberOf yX6_memberOf ∈ gW := ⟨w2_212, ws_8⟩
theorem kY_X6_setOf : gY yX6_setOf cX6_setOf 2 (some (.object "CrystalClub$CrystalSet")) 1 := ⟨w2_209, w1_1, ⟨by decide +kernel, by decide +kernel⟩, by decide +kernel⟩
theorem kV_X6_setOf : Cond.instanceMethod yX6_setOf ∈ gW ∧ Cond.selects yX6_setOf.cls yX6_setOf yX6_setOf ∈ gW := ⟨w2_208, ws_7⟩
theorem kY_X6_logOf : gY yX6_logOf cX6_logOf 4 (some (.object "CrystalClub$Table")) 2 := ⟨w3_91, w1_1, ⟨by decide +kernel, by decide +kernel⟩, by decide +kernel⟩
theorem kV_X6_logOf : Cond.instanceMethod yX6_logOf ∈ gW ∧ Cond.selects yX6_logOf.cls yX6_logOf yX6_logOf ∈ gW := ⟨w3_90, ws_10⟩
theorem kY_X6_quotient : gY yX6_quotient cX6_quotient 2 (some .int) 2 := ⟨w2_196, w1_1, ⟨by decide +kernel, by decide +kernel⟩, by decide +kernel⟩
theorem kV_X6_quotient : Cond.static yX6_quotient ∈ gW := w2_195
theorem kY_X6_distance : gY yX6_distance cX6_distance 2 (some .int) 2 := ⟨w3_55, w1_1, ⟨by decide +kernel, by decide +kernel⟩, by decide +kernel⟩
theorem kV_X6_distance : Cond.static yX6_distance ∈ gW := w3_54
theorem kY_X7_init : gY yX7_init cX7_init 2 none 1 := ⟨w4_37, w1_9, ⟨by decide +kernel, by decide +kernel⟩, by decide +kernel⟩
theorem kV_X7_init : yX7_init.name = "<init>" ∧ Cond.instanceMethod yX7_init ∈ gW := ⟨rfl, w4_36⟩
theorem kY_X7_copy : gY yX7_copy cX7_copy 3 none 2 := ⟨w5_55, w1_9, ⟨by decide +kernel, by decide +kernel⟩, by decide +kernel⟩
theorem kV_X7_copy : Cond.instanceMethod yX7_copy ∈ gW ∧ Cond.selects yX7_copy.cls yX7_copy yX7_copy ∈ gW := ⟨w5_54, ws_35⟩
theorem kY_X7_become : gY yX7_become cX7_become 2 none 1 := ⟨w5_51, w1_9, ⟨by decide +kernel, by decide +kernel⟩, by decide +kernel⟩
theorem kV_X7_become : Cond.instanceMethod yX7_become ∈ gW ∧ Cond.selects yX7_become.cls yX7_become yX7_become ∈ gW := ⟨w5_49, w5_50⟩
theorem kY_X7_isInDay : gY yX7_isInDay cX7_isInDay 5 (some .boolean) 2 := ⟨w5_8, w1_9, ⟨by decide +kernel, by decide +kernel⟩, by decide +kernel⟩
theorem kV_X7_isInDay : Cond.instanceMethod yX7_isInDay ∈ gW ∧ Cond.selects yX7_isInDay.cls yX7_isInDay yX7_isInDay ∈ gW := ⟨w5_7, ws_31⟩
theorem kY_X7_hear : gY yX7_hear cX7_hear 5 none 0 := ⟨w5_2, w1_9, ⟨by decide +kernel, by decide +kernel⟩, by decide +kernel⟩
theorem kV_X7_hear : Cond.instanceMethod yX7_hear ∈ gW ∧ Cond.selects yX7_hear.cls yX7_hear yX7_hear ∈ gW := ⟨w5_1, ws_30⟩
theorem kY_X7_answer : gY yX7_answer cX7_answer 5 none 0 := ⟨w5_14, w1_9, ⟨by decide +kernel, by decide +kernel⟩, by decide +kernel⟩
theorem kV_X7_answer : Cond.instanceMethod yX7_answer ∈ gW ∧ Cond.selects yX7_answer.cls yX7_answer yX7_answer ∈ gW := ⟨w5_13, ws_32⟩
theorem kY_X7_pass : gY yX7_pass cX7_pass 4 none 1 := ⟨w4_238, w1_9, ⟨by decide +kernel, by decide +kernel⟩, by decide +kernel⟩
theorem kV_X7_pass : Cond.instanceMethod yX7_pass ∈ gW ∧ Cond.selects yX7_pass.cls yX7_pass yX7_pass ∈ gW := ⟨w4_236, w4_237⟩
theorem kY_X7_hasCard : gY yX7_hasCard cX7_hasCard 5 (some .boolean) 2 := ⟨w4_182, w1_9, ⟨by decide +kernel, by decide +kernel⟩, by decide +kernel⟩
theorem kV_X7_hasCard : Cond.instanceMethod yX7_hasCard ∈ gW ∧ Cond.selects yX7_hasCard.cls yX7_hasCard yX7_hasCard ∈ gW := ⟨w4_180, w4_181⟩
theorem kY_X8_init : gY yX8_init cX8_init 1 none 0 := ⟨w4_31, w1_8, ⟨by decide +kernel, by decide +kernel⟩, by decide +kernel⟩
theorem kV_X8_init : yX8_init.name = "<init>" ∧ Cond.instanceMethod yX8_init ∈ gW := ⟨rfl, w4_30⟩
theorem kY_X8_thrown : gY yX8_thrown cX8_thrown 1 (some .int) 0 := ⟨w4_113, w1_8, ⟨by decide +kernel, by decide +kernel⟩, by decide +kernel⟩
theorem kV_X8_thrown : Cond.instanceMethod yX8_thrown ∈ gW ∧ Cond.selects yX8_thrown.cls yX8_thrown yX8_thrown ∈ gW := ⟨w4_111, w4_112⟩
theorem kY_X8_no : gY yX8_no cX8_no 2 (some .int) 1 := ⟨w4_124, w1_8, ⟨by decide +kernel, by decide +kernel⟩, by decide +kernel⟩
theorem kV_X8_no : Cond.instanceMethod yX8_no ∈ gW ∧ Cond.selects yX8_no.cls yX8_no yX8_no ∈ gW := ⟨w4_123, ws_18⟩
theorem kY_X8_isIn : gY yX8_isIn cX8_isIn 3 (some .boolean) 3 := ⟨w4_120, w1_8, ⟨by decide +kernel, by decide +kernel⟩, by decide +kernel⟩
theorem kV_X8_isIn : Cond.static yX8_isIn ∈ gW := w4_119
theorem kY_X8_isStation : gY yX8_isStation cX8_isStation 2 (some .boolean) 1 := ⟨w4_159, w1_8, ⟨by decide +kernel, by decide +kernel⟩, by decide +kernel⟩
theorem kV_X8_isStation : Cond.instanceMethod yX8_isStation ∈ gW ∧ Cond.selects yX8_isStation.cls yX8_isStation yX8_isStation ∈ gW := ⟨w4_158, ws_20⟩
theorem kY_X8_isMember : gY yX8_isMember cX8_isMember 2 (some .boolean) 1 := ⟨w4_139, w1_8, ⟨by decide +kernel, by decide +kernel⟩, by decide +kernel⟩
theorem kV_X8_isMember : Cond.instanceMethod yX8_isMember ∈ gW ∧ Cond.selects yX8_isMember.cls yX8_isMember yX8_isMember ∈ gW := ⟨w4_138, ws_19⟩
theorem kY_X8_isLine : gY yX8_isLine cX8_isLine 3 (some .boolean) 2 := ⟨w4_226, w1_8, ⟨by decide +kernel, by decide +kernel⟩, by decide +kernel⟩
theorem kV_X8_isLine : Cond.instanceMethod yX8_isLine ∈ gW ∧ Cond.selects yX8_isLine.cls yX8_isLine yX8_isLine ∈ gW := ⟨w4_225, ws_29⟩
theorem kY_X8_tuned : gY yX8_tuned cX8_tuned 2 (some .int) 2 := ⟨w4_193, w1_8, ⟨by decide +kernel, by decide +kernel⟩, by decide +kernel⟩
theorem kV_X8_tuned : Cond.static yX8_tuned ∈ gW := w4_192
theorem kY_X8_width : gY yX8_width cX8_width 1 (some .int) 1 := ⟨w4_197, w1_8, ⟨by decide +kernel, by decide +kernel⟩, by decide +kernel⟩
theorem kV_X8_width : Cond.static yX8_width ∈ gW := w4_196
theorem kY_X8_fading : gY yX8_fading cX8_fading 3 (some .int) 2 := ⟨w4_171, w1_8, ⟨by decide +kernel, by decide +kernel⟩, by decide +kernel⟩
theorem kV_X8_fading : Cond.instanceMethod yX8_fading ∈ gW ∧ Cond.selects yX8_fading.cls yX8_fading yX8_fading ∈ gW := ⟨w4_170, ws_23⟩
theorem kY_X8_onAir : gY yX8_onAir cX8_onAir 4 (some .int) 1 := ⟨w4_167, w1_8, ⟨by decide +kernel, by decide +kernel⟩, by decide +kernel⟩
theorem kV_X8_onAir : Cond.instanceMethod yX8_onAir ∈ gW ∧ Cond.selects yX8_onAir.cls yX8_onAir yX8_onAir ∈ gW := ⟨w4_166, ws_22⟩
theorem kY_X8_reach : gY yX8_reach cX8_reach 10 (some .int) 6 := ⟨w4_210, w1_8, ⟨by decide +kernel, by decide +kernel⟩, by decide +kernel⟩
theorem kV_X8_reach : Cond.instanceMethod yX8_reach ∈ gW ∧ Cond.selects yX8_reach.cls yX8_reach yX8_reach ∈ gW := ⟨w4_209, ws_27⟩
theorem kY_X8_heard : gY yX8_heard cX8_heard 13 (some .int) 6 := ⟨w4_218, w1_8, ⟨by decide +kernel, by decide +kernel⟩, by decide +kernel⟩
theorem kV_X8_heard : Cond.instanceMethod yX8_heard ∈ gW ∧ Cond.selects yX8_heard.cls yX8_heard yX8_heard ∈ gW := ⟨w4_217, ws_28⟩
theorem kY_X8_addStation : gY yX8_addStation cX8_addStation 8 (some .int) 6 := ⟨w4_117, w1_8, ⟨by decide +kernel, by decide +kernel⟩, by decide +kernel⟩
theorem kV_X8_addStation : Cond.instanceMethod yX8_addStation ∈ gW ∧ Cond.selects yX8_addStation.cls yX8_addStation yX8_addStation ∈ gW := ⟨w4_115, w4_116⟩
theorem kY_X8_join : gY yX8_join cX8_join 3 (some .int) 2 := ⟨w4_131, w1_8, ⟨by decide +kernel, by decide +kernel⟩, by decide +kernel⟩
theorem kV_X8_join : Cond.instanceMethod yX8_join ∈ gW ∧ Cond.selects yX8_join.cls yX8_join yX8_join ∈ gW := ⟨w4_129, w4_130⟩
theorem kY_X8_turn : gY yX8_turn cX8_turn 4 (some .int) 2 := ⟨w4_135, w1_8, ⟨by decide +kernel, by decide +kernel⟩, by decide +kernel⟩
theorem kV_X8_turn : Cond.instanceMethod yX8_turn ∈ gW ∧ Cond.selects yX8_turn.cls yX8_turn yX8_turn ∈ gW := ⟨w4_133, w4_134⟩
theorem kY_X8_wind : gY yX8_wind cX8_wind 4 (some .int) 2 := ⟨w4_143, w1_8, ⟨by decide +kernel, by decide +kernel⟩, by decide +kernel⟩
theorem kV_X8_wind : Cond.instanceMethod yX8_wind ∈ gW ∧ Cond.selects yX8_wind.cls yX8_wind yX8_wind ∈ gW := ⟨w4_141, w4_142⟩
theorem kY_X8_listen : gY yX8_listen cX8_listen 4 (some .boolean) 2 := ⟨w4_147, w1_8, ⟨by decide +kernel, by decide +kernel⟩, by decide +kernel⟩
theorem kV_X8_listen : Cond.instanceMethod yX8_listen ∈ gW ∧ Cond.selects yX8_listen.cls yX8_listen yX8_listen ∈ gW := ⟨w4_145, w4_146⟩
theorem kY_X8_renew : gY yX8_renew cX8_renew 3 (some .int) 1 := ⟨w4_151, w1_8, ⟨by decide +kernel, by decide +kernel⟩, by decide +kernel⟩
theorem kV_X8_renew : Cond.instanceMethod yX8_renew ∈ gW ∧ Cond.selects yX8_renew.cls yX8_renew yX8_renew ∈ gW := ⟨w4_149, w4_150⟩
theorem kY_X8_cards : gY yX8_cards cX8_cards 4 (some .int) 1 := ⟨w4_178, w1_8, ⟨by decide +kernel, by decide +kernel⟩, by decide +kernel⟩
theorem kV_X8_cards : Cond.instanceMethod yX8_cards ∈ gW ∧ Cond.selects yX8_cards.cls yX8_cards yX8_cards ∈ gW := ⟨w4_177, ws_24⟩
theorem kY_X8_stationTold : gY yX8_stationTold cX8_stationTold 3 (some .int) 2 := ⟨w4_163, w1_8, ⟨by decide +kernel, by decide +kernel⟩, by decide +kernel⟩
theorem kV_X8_stationTold : Cond.instanceMethod yX8_stationTold ∈ gW ∧ Cond.selects yX8_stationTold.cls yX8_stationTold yX8_stationTold ∈ gW := ⟨w4_162, ws_21⟩
theorem kY_X8_station : gY yX8_station cX8_station 3 (some .int) 2 := ⟨w4_155, w1_8, ⟨by decide +kernel, by decide +kernel⟩, by decide +kernel⟩
theorem kV_X8_station : Cond.instanceMethod yX8_station ∈ gW ∧ Cond.selects yX8_station.cls yX8_station yX8_station ∈ gW := ⟨w4_153, w4_154⟩
theorem kY_X8_held : gY yX8_held cX8_held 5 (some .int) 2 := ⟨w4_202, w1_8, ⟨by decide +kernel, by decide +kernel⟩, by decide +kernel⟩
theorem kV_X8_held : Cond.instanceMethod yX8_held ∈ gW ∧ Cond.selects yX8_held.cls yX8_held yX8_held ∈ gW := ⟨w4_201, ws_26⟩
theorem kY_X8_memberTold : gY yX8_memberTold cX8_memberTold 3 (some .int) 2 := ⟨w4_190, w1_8, ⟨by decide +kernel, by decide +kernel⟩, by decide +kernel⟩
theorem kV_X8_memberTold : Cond.instanceMethod yX8_memberTold ∈ gW ∧ Cond.selects yX8_memberTold.cls yX8_memberTold yX8_memberTold ∈ gW := ⟨w4_189, ws_25⟩
theorem kY_X8_member : gY yX8_member cX8_member 3 (some .int) 2 := ⟨w4_186, w1_8, ⟨by decide +kernel, by decide +kernel⟩, by decide +kernel⟩
theorem kV_X8_member : Cond.instanceMethod yX8_member ∈ gW ∧ Cond.selects yX8_member.cls yX8_member yX8_member ∈ gW := ⟨w4_184, w4_185⟩
theorem kY_X8_strength : gY yX8_strength cX8_strength 3 (some .int) 2 := ⟨w4_206, w1_8, ⟨by decide +kernel, by decide +kernel⟩, by decide +kernel⟩
theorem kV_X8_strength : Cond.instanceMethod yX8_strength ∈ gW ∧ Cond.selects yX8_strength.cls yX8_strength yX8_strength ∈ gW := ⟨w4_204, w4_205⟩
theorem kY_X8_hears : gY yX8_hears cX8_hears 2 (some .int) 1 := ⟨w4_214, w1_8, ⟨by decide +kernel, by decide +kernel⟩, by decide +kernel⟩
theorem kV_X8_hears : Cond.instanceMethod yX8_hears ∈ gW ∧ Cond.selects yX8_hears.cls yX8_hears yX8_hears ∈ gW := ⟨w4_212, w4_213⟩
theorem kY_X8_log : gY yX8_log cX8_log 4 (some .int) 3 := ⟨w4_222, w1_8, ⟨by decide +kernel, by decide +kernel⟩, by decide +kernel⟩
theorem kV_X8_log : Cond.instanceMethod yX8_log ∈ gW ∧ Cond.selects yX8_log.cls yX8_log yX8_log ∈ gW := ⟨w4_220, w4_221⟩
theorem kY_X8_write : gY yX8_write cX8_write 6 (some .int) 2 := ⟨w4_230, w1_8, ⟨by decide +kernel, by decide +kernel⟩, by decide +kernel⟩
theorem kV_X8_write : Cond.instanceMethod yX8_write ∈ gW ∧ Cond.selects yX8_write.cls yX8_write yX8_write ∈ gW := ⟨w4_228, w4_229⟩
theorem kY_X8_pass : gY yX8_pass cX8_pass 3 (some .int) 1 := ⟨w4_234, w1_8, ⟨by decide +kernel, by decide +kernel⟩, by decide +kernel⟩
theorem kV_X8_pass : Cond.instanceMethod yX8_pass ∈ gW ∧ Cond.selects yX8_pass.cls yX8_pass yX8_pass ∈ gW := ⟨w4_232, w4_233⟩
theorem kY_X8_counted : gY yX8_counted cX8_counted 4 (some .int) 1 := ⟨w5_22, w1_8, ⟨by decide +kernel, by decide +kernel⟩, by decide +kernel⟩
theorem kV_X8_counted : Cond.instanceMethod yX8_counted ∈ gW ∧ Cond.selects yX8_counted.cls yX8_counted yX8_counted ∈ gW := ⟨w5_21, ws_33⟩
theorem kY_X8_count : gY yX8_count cX8_count 2 (some .int) 1 := ⟨w5_18, w1_8, ⟨by decide +kernel, by decide +kernel⟩, by decide +kernel⟩
theorem kV_X8_count : Cond.instanceMethod yX8_count ∈ gW ∧ Cond.selects yX8_count.cls yX8_count yX8_count ∈ gW := ⟨w5_16, w5_17⟩
theorem kY_X8_leads : gY yX8_leads cX8_leads 4 (some .boolean) 2 := ⟨w5_31, w1_8, ⟨by decide +kernel, by decide +kernel⟩, by decide +kernel⟩
theorem kV_X8_leads : Cond.instanceMethod yX8_leads ∈ gW ∧ Cond.selects yX8_leads.cls yX8_leads yX8_leads ∈ gW := ⟨w5_30, ws_34⟩
theorem kY_X8_rank : gY yX8_rank cX8_rank 5 (some .int) 1 := ⟨w5_27, w1_8, ⟨by decide +kernel, by decide +kernel⟩, by decide +kernel⟩
theorem kV_X8_rank : Cond.instanceMethod yX8_rank ∈ gW ∧ Cond.selects yX8_rank.cls yX8_rank yX8_rank ∈ gW := ⟨w5_25, w5_26⟩
theorem kY_X8_dial : gY yX8_dial cX8_dial 8 (some .int) 2 := ⟨w5_35, w1_8, ⟨by decide +kernel, by decide +kernel⟩, by decide +kernel⟩
theorem kV_X8_dial : Cond.instanceMethod yX8_dial ∈ gW ∧ Cond.selects yX8_dial.cls yX8_dial yX8_dial ∈ gW := ⟨w5_33, w5_34⟩
theorem kY_X8_next : gY yX8_next cX8_next 5 (some .int) 2 := ⟨w5_39, w1_8, ⟨by decide +kernel, by decide +kernel⟩, by decide +kernel⟩
theorem kV_X8_next : Cond.instanceMethod yX8_next ∈ gW ∧ Cond.selects yX8_next.cls yX8_next yX8_next ∈ gW := ⟨w5_37, w5_38⟩
theorem kY_X8_apart : gY yX8_apart cX8_apart 10 (some .int) 3 := ⟨w5_43, w1_8, ⟨by decide +kernel, by decide +kernel⟩, by decide +kernel⟩
theorem kV_X8_apart : Cond.instanceMethod yX8_apart ∈ gW ∧ Cond.selects yX8_apart.cls yX8_apart yX8_apart ∈ gW := ⟨w5_41, w5_42⟩
theorem kY_X8_foresee : gY yX8_foresee cX8_foresee 3 (some .int) 2 := ⟨w5_47, w1_8, ⟨by decide +kernel, by decide +kernel⟩, by decide +kernel⟩
theorem kV_X8_foresee : Cond.instanceMethod yX8_foresee ∈ gW ∧ Cond.selects yX8_foresee.cls yX8_foresee yX8_foresee ∈ gW := ⟨w5_45, w5_46⟩
theorem kY_X8_mean : gY yX8_mean cX8_mean 4 (some .double) 0 := ⟨w5_60, w1_8, ⟨by decide +kernel, by decide +kernel⟩, by decide +kernel⟩
theorem kV_X8_mean : Cond.instanceMethod yX8_mean ∈ gW ∧ Cond.selects yX8_mean.cls yX8_mean yX8_mean ∈ gW := ⟨w5_58, w5_59⟩
theorem kY_X8_digest : gY yX8_digest cX8_digest 5 (some .long) 0 := ⟨w5_64, w1_8, ⟨by decide +kernel, by decide +kernel⟩, by decide +kernel⟩
theorem kV_X8_digest : Cond.instanceMethod yX8_digest ∈ gW ∧ Cond.selects yX8_digest.cls yX8_digest yX8_digest ∈ gW := ⟨w5_62, w5_63⟩
theorem kY_J6_compare_7cf53 : gY yJ6_compare_7cf53 cJ6_compare_7cf53 2 (some .int) 2 := ⟨w3_209, w1_18, ⟨by decide +kernel, by decide +kernel⟩, by decide +kernel⟩
theorem kV_J6_compare_7cf53 : Cond.static yJ6_compare_7cf53 ∈ gW := w3_208
theorem kY_J6_bitCount_0f7a4 : gY yJ6_bitCount_0f7a4 cJ6_bitCount_0f7a4 1 (some .int) 1 := ⟨w2_28, w1_18, ⟨by decide +kernel, by decide +kernel⟩, by decide +kernel⟩
theorem kV_J6_bitCount_0f7a4 : Cond.static yJ6_bitCount_0f7a4 ∈ gW := w2_27
end
section
/-! the class's small methods: what they answer and do, as functions of the numbers -/
abbrev rmd (x y : Int32) : Int32 := x - x / y * y
def quoF (d v : Int32) : Int32 := if v = 0 then 0 else d / v
def distF (a b : Int32) : Int32 := if b ≤ a then a - b else b - a
def wthF (x lo hi : Int32) : Int32 := if x < lo then 0 else if hi < x then 0 else 1
def airN (fr ho h : Int32) : Int32 := if ho ≤ rmd (rmd h 24 - fr + 24) 24 then 0 else 1
def fadF (p h : Int32) : Int32 := if 0 ≤ rmd (h + p) 12 - 6 then 4 + (rmd (h + p) 12 - 6) else 4 + -(rmd (h + p) 12 - 6)
def widF (t : Int32) : Int32 := if 10 < 80 - t / 3 then 80 - t / 3 else 10
def tuneF (M : St) (j : Nat) (t d : Int32) : St := mu (mu (mu (mu M 8 j 0 t) 9 j 0 d) 12 j 0 (quoF 100000 (t + d))) 13 j 0 (widF t)
/-- the strength of a station of these numbers at a set of these numbers -/
def strN (fr pw fa fad tun wid aer cry : Int32) : Int32 := if 0 < wid - distF fr tun then (quoF (quoF (pw * fad * aer) (10 * fa) * (wid - distF fr tun)) wid * (1 + cry)) / 10 else 0
def strF (M : St) (j i : Nat) (h : Int32) : Int32 := strN (M 0 i 0) (M 0 i 1) (M 0 i 2) (fadF (M 0 i 5) h) (M 12 j 0) (M 13 j 0) (M 10 j 0) (M 11 j 0)
def setH (M : St) (c : Nat) (a b s r : Int32) : St := mu (mu (mu (mu M 4 c 0 a) 5 c 0 b) 6 c 0 s) 7 c 0 r
theorem gG.to {Z : gZ} {A : Nat → Prop} {s : State} {ws ws' : va_W} {H : Heap} {locs : List Loc} (G : gG Z A s ws H locs) (h : ws = ws') : gG Z A s ws' H locs := h ▸ G
theorem st_ext {M N : St} (h : ∀ f i j, M f i j = N f i j) : M = N := funext fun f => funext fun i => funext fun j => h f i j
theorem setH_of {M : St} {c : Nat} {a b s r : Int32} {f i j : Nat} (h : ¬ (4 ≤ f ∧ f ≤ 7 ∧ i = c ∧ j = 0)) : setH M c a b s r f i j = M f i j := by
  have hm : ∀ (N : St) (g : Nat) (v : Int32), 4 ≤ g → g ≤ 7 → mu N g c 0 v f i j = N f i j := by
    intro N g v h4 h7
    by_cases hg : f = g
    · by_cases hi : i = c
      · subst hg; subst hi
        exact mu_j (fun q => h ⟨h4, h7, rfl, q⟩)
      · rw [mu_ne (fun q => hi q.2)]
    · rw [mu_o hg]
  unfold setH
  rw [hm _ _ _ (by omega) (by omega), hm _ _ _ (by omega) (by omega), hm _ _ _ (by omega) (by omega), hm _ _ _ (by omega) (by omega)]
theorem setH_4 {M : St} {c : Nat} {a b s r : Int32} : setH M c a b s r 4 c 0 = a := by simp [setH, mu, upd]
theorem setH_5 {M : St} {c : Nat} {a b s r : Int32} : setH M c a b s r 5 c 0 = b := by simp [setH, mu, upd]
theorem setH_6 {M : St} {c : Nat} {a b s r : Int32} : setH M c a b s r 6 c 0 = s := by simp [setH, mu, upd]
theorem setH_7 {M : St} {c : Nat} {a b s r : Int32} : setH M c a b s r 7 c 0 = r := by simp [setH, mu, upd]
theorem setH_ext {M N : St} {c : Nat} {a b s r : Int32} (h : ∀ f i j, ¬ (4 ≤ f ∧ f ≤ 7 ∧ i = c ∧ j = 0) → N f i j = M f i j) (h4 : N 4 c 0 = a) (h5 : N 5 c 0 = b) (h6 : N 6 c 0 = s) (h7 : N 7 c 0 = r) : N = setH M c a b s r := by
  refine st_ext fun f i j => ?_
  by_cases hq : 4 ≤ f ∧ f ≤ 7 ∧ i = c ∧ j = 0
  · obtain ⟨h1, h2, rfl, rfl⟩ := hq
    rcases (show f = 4 ∨ f = 5 ∨ f = 6 ∨ f = 7 by omega) with rfl | rfl | rfl | rfl
    · rw [h4, setH_4]
    · rw [h5, setH_5]
    · rw [h6, setH_6]
    · rw [h7, setH_7]
  · rw [h f i j hq, setH_of hq]
theorem setH_x {M : St} {c : Nat} {a b s r a' b' s' r' : Int32} : setH (setH M c a b s r) c a' b' s' r' = setH M c a' b' s' r' :=
  setH_ext (fun f i j h => by rw [setH_of h, setH_of h]) setH_4 setH_5 setH_6 setH_7
/-- what is heard: how many are in reach, which is the strongest, how strong, the next one -/
abbrev hQ : Type := Int32 × Int32 × Int32 × Int32
def hstep (q : hQ) (num st : Int32) : hQ := if 0 < st then (if st ≤ q.2.2.1 then (if st ≤ q.2.2.2 then (q.1 + 1, q.2.1, q.2.2.1, q.2.2.2) else (q.1 + 1, q.2.1, q.2.2.1, st)) else (q.1 + 1, num, st, q.2.2.1)) else q
def hfold (f : Nat → Int32) : Nat → hQ
  | 0 => (0, -1, 0, 0)
  | i + 1 => hstep (hfold f i) (nI i) (f i)
def verQ (q : hQ) : Int32 := if q.2.2.1 < 5 then (if q.1 < 2 then -1 else -2) else if q.2.2.1 < 2 * q.2.2.2 then (if q.1 < 2 then -1 else -2) else q.2.1
def setQ (M : St) (c : Nat) (q : hQ) : St := setH M c q.1 q.2.1 q.2.2.1 q.2.2.2
theorem setQ_x {M : St} {c : Nat} {q q' : hQ} : setQ (setQ M c q) c q' = setQ M c q' := setH_x
def getQ (M : St) (c : Nat) : hQ := (M 4 c 0, M 5 c 0, M 6 c 0, M 7 c 0)
theorem getQ_s {M : St} {c : Nat} {q : hQ} : getQ (setQ M c q) c = q := by
  obtain ⟨a, b, s, r⟩ := q
  show (setH M c a b s r 4 c 0, setH M c a b s r 5 c 0, setH M c a b s r 6 c 0, setH M c a b s r 7 c 0) = _
  rw [setH_4, setH_5, setH_6, setH_7]
theorem setQ_g {M : St} {c : Nat} : setQ M c (getQ M c) = M := (setH_ext (fun _ _ _ _ => rfl) rfl rfl rfl rfl).symm
theorem setQ_of {M : St} {c : Nat} {q : hQ} {f i j : Nat} (h : ¬ (4 ≤ f ∧ f ≤ 7 ∧ i = c ∧ j = 0)) : setQ M c q f i j = M f i j := setH_of h
/-- a number of another cell stays, by its kind -/
theorem mu_of {M : St} {f i j g a b : Nat} {v : Int32} (h : ¬ (g = f ∧ a = i ∧ b = j)) : mu M f i j v g a b = M g a b := by
  by_cases h1 : g = f ∧ a = i
  · obtain ⟨rfl, rfl⟩ := h1
    exact mu_j (fun q => h ⟨rfl, rfl, q⟩)
  · rw [mu_ne h1]
theorem setH_mu {M N : St} {c : Nat} {a b s r : Int32} (h : N = setH M c a b s r) : setH M c a b s r = N := h.symm
set_option maxRecDepth 100000 in
set_option maxHeartbeats 4000000 in
theorem c_X6_quotient (Z : gZ) (l : Launch) (a b : Int32) (ws : va_W) : gM Z l yX6_quotient cX6_quotient 2 (some .int) ({ frames := 0, cells := 0, slots := 0, locals := 0 } : Room) [.int a, .int b] ws (some (.int (quoF a b))) ws 0 0 := by
  refine gM_of (by decide +kernel) (Nat.le_of_ble_eq_true rfl) ?_
  intro pP eE sS mI aA bB mE cC A F hname hG ls hl
  have hx := F.1
  have hb := F.2.1
  have hl : lv_has ls 2 [(0, .int a), (1, .int b)] := hl
  refine lv_iload_n hx hb dX6_quotient_0 rfl (lv_at hl 1 rfl) ?_
  refine lv_if_ne (tgt := 8) hx hb dX6_quotient_1 (by decide) (fun h1 => ?_) (fun h1 => ?_)
  · refine lv_iload_n hx hb dX6_quotient_8 rfl (lv_at hl 0 rfl) ?_
    refine lv_iload_n hx hb dX6_quotient_9 rfl (lv_at hl 1 rfl) ?_
    refine lv_idiv hx hb dX6_quotient_10 h1 ?_
    exact gg_iret F hG rfl (by rw [quoF, if_neg h1]) rfl dX6_quotient_11
  · refine lv_iconst (v := 0) hx hb dX6_quotient_4 (by decide) ?_
    refine lv_goto (tgt := 11) hx hb dX6_quotient_5 (by decide) ?_
    exact gg_iret F hG rfl (by rw [quoF, if_pos h1]) rfl dX6_quotient_11
set_option maxRecDepth 100000 in
set_option maxHeartbeats 4000000 in
theorem c_X6_distance (Z : gZ) (l : Launch) (a b : Int32) (ws : va_W) : gM Z l yX6_distance cX6_distance 2 (some .int) ({ frames := 0, cells := 0, slots := 0, locals := 0 } : Room) [.int a, .int b] ws (some (.int (distF a b))) ws 0 0 := by
  refine gM_of (by decide +kernel) (Nat.le_of_ble_eq_true rfl) ?_
  intro pP eE sS mI aA bB mE cC A F hname hG ls hl
  have hx := F.1
  have hb := F.2.1
  have hl : lv_has ls 2 [(0, .int a), (1, .int b)] := hl
  refine lv_iload_n hx hb dX6_distance_0 rfl (lv_at hl 0 rfl) ?_
  refine lv_iload_n hx hb dX6_distance_1 rfl (lv_at hl 1 rfl) ?_
  refine lv_icmp_ge (tgt := 11) hx hb dX6_distance_2 (by decide) (fun h2 => ?_) (fun h2 => ?_)
  · refine lv_iload_n hx hb dX6_distance_11 rfl (lv_at hl 0 rfl) ?_
    refine lv_iload_n hx hb dX6_distance_12 rfl (lv_at hl 1 rfl) ?_
    refine lv_isub hx hb dX6_distance_13 ?_
    exact gg_iret F hG rfl (by rw [distF, if_pos h2]) rfl dX6_distance_14
  · refine lv_iload_n hx hb dX6_distance_5 rfl (lv_at hl 1 rfl) ?_
    refine lv_iload_n hx hb dX6_distance_6 rfl (lv_at hl 0 rfl) ?_
    refine lv_isub hx hb dX6_distance_7 ?_
    refine lv_goto (tgt := 14) hx hb dX6_distance_8 (by decide) ?_
    exact gg_iret F hG rfl (by rw [distF, if_neg h2]) rfl dX6_distance_14
set_option maxRecDepth 100000 in
set_option maxHeartbeats 4000000 in
theorem c_X6_isWithin (Z : gZ) (l : Launch) (x a b : Int32) (ws : va_W) : gM Z l yX6_isWithin cX6_isWithin 3 (some .boolean) ({ frames := 0, cells := 0, slots := 0, locals := 0 } : Room) [.int x, .int a, .int b] ws (some (.int (wthF x a b))) ws 0 0 := by
  refine gM_of (by decide +kernel) (Nat.le_of_ble_eq_true rfl) ?_
  intro pP eE sS mI aA bB mE cC A F hname hG ls hl
  have hx := F.1
  have hb := F.2.1
  have hl : lv_has ls 3 [(0, .int x), (1, .int a), (2, .int b)] := hl
  refine lv_iload_n hx hb dX6_isWithin_0 rfl (lv_at hl 0 rfl) ?_
  refine lv_iload_n hx hb dX6_isWithin_1 rfl (lv_at hl 1 rfl) ?_
  refine lv_icmp_lt (tgt := 14) hx hb dX6_isWithin_2 (by decide) (fun h2 => ?_) (fun h2 => ?_)
  · refine lv_iconst (v := 0) hx hb dX6_isWithin_14 (by decide) ?_
    exact gg_iret F hG rfl (by rw [wthF, if_pos h2]) rfl dX6_isWithin_15
  · refine lv_iload_n hx hb dX6_isWithin_5 rfl (lv_at hl 0 rfl) ?_
    refine lv_iload_n hx hb dX6_isWithin_6 rfl (lv_at hl 2 rfl) ?_
    refine lv_icmp_gt (tgt := 14) hx hb dX6_isWithin_7 (by decide) (fun h7 => ?_) (fun h7 => ?_)
    · refine lv_iconst (v := 0) hx hb dX6_isWithin_14 (by decide) ?_
      exact gg_iret F hG rfl (by rw [wthF, if_neg h2, if_pos h7]) rfl dX6_isWithin_15
    · refine lv_iconst (v := 1) hx hb dX6_isWithin_10 (by decide) ?_
      refine lv_goto (tgt := 15) hx hb dX6_isWithin_11 (by decide) ?_
      exact gg_iret F hG rfl (by rw [wthF, if_neg h2, if_neg h7]) rfl dX6_isWithin_15
set_option maxRecDepth 100000 in
set_option maxHeartbeats 4000000 in
theorem c_X4_isOnAir (Z : gZ) (l : Launch) (AD : Nat → Nat) (M : St) (n : Nat) (hn : 78 ≤ n) (i : Nat) (hi : 78 + i < n) (h : Int32) : gM Z l yX4_isOnAir cX4_isOnAir 3 (some .boolean) ({ frames := 0, cells := 0, slots := 0, locals := 0 } : Room) [.ref (AD (78 + i)), .int h] (wC Z AD M n) (some (.int (airN (M 0 i 3) (M 0 i 4) h))) (wC Z AD M n) 0 0 := by
  refine gM_of (by decide +kernel) (Nat.le_of_ble_eq_true rfl) ?_
  intro pP eE sS mI aA bB mE cC A F hname hG ls hl
  have hx := F.1
  have hb := F.2.1
  have hl : lv_has ls 3 [(0, .ref (AD (78 + i))), (1, .int h)] := hl
  refine lv_iload_n hx hb dX4_isOnAir_0 rfl (lv_at hl 1 rfl) ?_
  refine lv_bipush (v := 24) hx hb dX4_isOnAir_1 (by decide) ?_
  refine lv_irem hx hb dX4_isOnAir_3 (by decide) ?_
  refine lv_aload_n hx hb dX4_isOnAir_4 rfl (lv_at hl 0 rfl) ?_
  refine gg_get F hG (ci := 4) (v := .int (M 0 i 3)) 3 gcX4 rfl (gC_stat hi) (by decide) w2_152 rfl dX4_isOnAir_5 ?_
  refine lv_isub hx hb dX4_isOnAir_8 ?_
  refine lv_bipush (v := 24) hx hb dX4_isOnAir_9 (by decide) ?_
  refine lv_iadd hx hb dX4_isOnAir_11 ?_
  refine lv_bipush (v := 24) hx hb dX4_isOnAir_12 (by decide) ?_
  refine lv_irem hx hb dX4_isOnAir_14 (by decide) ?_
  refine lv_istore_n (lv' := [(2, .int ((((h - h / 24 * 24) - (M 0 i 3)) + 24) - (((h - h / 24 * 24) - (M 0 i 3)) + 24) / 24 * 24)), (0, .ref (AD (78 + i))), (1, .int h)]) hx hb dX4_isOnAir_15 rfl hl (by decide) rfl (fun ls hl => ?_)
  refine lv_iload_n hx hb dX4_isOnAir_16 rfl (lv_at hl 0 rfl) ?_
  refine lv_aload_n hx hb dX4_isOnAir_17 rfl (lv_at hl 1 rfl) ?_
  refine gg_get F hG (ci := 4) (v := .int (M 0 i 4)) 4 gcX4 rfl (gC_stat hi) (by decide) w2_153 rfl dX4_isOnAir_18 ?_
  refine lv_icmp_ge (tgt := 28) hx hb dX4_isOnAir_21 (by decide) (fun h21 => ?_) (fun h21 => ?_)
  · refine lv_iconst (v := 0) hx hb dX4_isOnAir_28 (by decide) ?_
    exact gg_iret F hG rfl (by rw [airN, if_pos h21]) rfl dX4_isOnAir_29
  · refine lv_iconst (v := 1) hx hb dX4_isOnAir_24 (by decide) ?_
    refine lv_goto (tgt := 29) hx hb dX4_isOnAir_25 (by decide) ?_
    exact gg_iret F hG rfl (by rw [airN, if_neg h21]) rfl dX4_isOnAir_29
set_option maxRecDepth 100000 in
set_option maxHeartbeats 4000000 in
theorem c_X4_fading (Z : gZ) (l : Launch) (AD : Nat → Nat) (M : St) (n : Nat) (hn : 78 ≤ n) (i : Nat) (hi : 78 + i < n) (h : Int32) : gM Z l yX4_fading cX4_fading 3 (some .int) ({ frames := 0, cells := 0, slots := 0, locals := 0 } : Room) [.ref (AD (78 + i)), .int h] (wC Z AD M n) (some (.int (fadF (M 0 i 5) h))) (wC Z AD M n) 0 0 := by
  refine gM_of (by decide +kernel) (Nat.le_of_ble_eq_true rfl) ?_
  intro pP eE sS mI aA bB mE cC A F hname hG ls hl
  have hx := F.1
  have hb := F.2.1
  have hl : lv_has ls 3 [(0, .ref (AD (78 + i))), (1, .int h)] := hl
  refine lv_iload_n hx hb dX4_fading_0 rfl (lv_at hl 1 rfl) ?_
  refine lv_aload_n hx hb dX4_fading_1 rfl (lv_at hl 0 rfl) ?_
  refine gg_get F hG (ci := 4) (v := .int (M 0 i 5)) 5 gcX4 rfl (gC_stat hi) (by decide) w2_154 rfl dX4_fading_2 ?_
  refine lv_iadd hx hb dX4_fading_5 ?_
  refine lv_bipush (v := 12) hx hb dX4_fading_6 (by decide) ?_
  refine lv_irem hx hb dX4_fading_8 (by decide) ?_
  refine lv_bipush (v := 6) hx hb dX4_fading_9 (by decide) ?_
  refine lv_isub hx hb dX4_fading_11 ?_
  refine lv_istore_n (lv' := [(2, .int (((h + (M 0 i 5)) - (h + (M 0 i 5)) / 12 * 12) - 6)), (0, .ref (AD (78 + i))), (1, .int h)]) hx hb dX4_fading_12 rfl hl (by decide) rfl (fun ls hl => ?_)
  refine lv_iconst (v := 4) hx hb dX4_fading_13 (by decide) ?_
  refine lv_iload_n hx hb dX4_fading_14 rfl (lv_at hl 0 rfl) ?_
  refine lv_if_ge (tgt := 23) hx hb dX4_fading_15 (by decide) (fun h15 => ?_) (fun h15 => ?_)
  · refine lv_iload_n hx hb dX4_fading_23 rfl (lv_at hl 0 rfl) ?_
    refine lv_iadd hx hb dX4_fading_24 ?_
    exact gg_iret F hG rfl (by rw [fadF, if_pos h15]) rfl dX4_fading_25
  · refine lv_iload_n hx hb dX4_fading_18 rfl (lv_at hl 0 rfl) ?_
    refine lv_ineg hx hb dX4_fading_19 ?_
    refine lv_goto (tgt := 24) hx hb dX4_fading_20 (by decide) ?_
    refine lv_iadd hx hb dX4_fading_24 ?_
    exact gg_iret F hG rfl (by rw [fadF, if_neg h15]) rfl dX4_fading_25
set_option maxRecDepth 100000 in
set_option maxHeartbeats 4000000 in
theorem c_X4_daysOfMail (Z : gZ) (l : Launch) (AD : Nat → Nat) (M : St) (n : Nat) (hn : 78 ≤ n) (i : Nat) (hi : 78 + i < n) : gM Z l yX4_daysOfMail cX4_daysOfMail 1 (some .int) ({ frames := 0, cells := 0, slots := 0, locals := 0 } : Room) [.ref (AD (78 + i))] (wC Z AD M n) (some (.int (M 0 i 2 / 10 + 2))) (wC Z AD M n) 0 0 := by
  refine gM_of (by decide +kernel) (Nat.le_of_ble_eq_true rfl) ?_
  intro pP eE sS mI aA bB mE cC A F hname hG ls hl
  have hx := F.1
  have hb := F.2.1
  have hl : lv_has ls 1 [(0, .ref (AD (78 + i)))] := hl
  refine lv_aload_n hx hb dX4_daysOfMail_0 rfl (lv_at hl 0 rfl) ?_
  refine gg_get F hG (ci := 4) (v := .int (M 0 i 2)) 2 gcX4 rfl (gC_stat hi) (by decide) w2_149 rfl dX4_daysOfMail_1 ?_
  refine lv_bipush (v := 10) hx hb dX4_daysOfMail_4 (by decide) ?_
  refine lv_idiv hx hb dX4_daysOfMail_6 (by decide) ?_
  refine lv_iconst (v := 2) hx hb dX4_daysOfMail_7 (by decide) ?_
  refine lv_iadd hx hb dX4_daysOfMail_8 ?_
  exact gg_iret F hG rfl rfl rfl dX4_daysOfMail_9
set_option maxRecDepth 100000 in
set_option maxHeartbeats 4000000 in
theorem c_X1_tune (Z : gZ) (l : Launch) (AD : Nat → Nat) (M : St) (n : Nat) (hn : 78 ≤ n) (j : Nat) (hj : j < 17) (t d : Int32) : gM Z l yX1_tune cX1_tune 3 none ({ frames := 1, cells := 0, slots := 0, locals := 24 } : Room) [.ref (AD (9 + j)), .int t, .int d] (wC Z AD M n) (none) (wC Z AD (tuneF M j t d) n) 0 0 := by
  refine gM_of (by decide +kernel) (Nat.le_of_ble_eq_true rfl) ?_
  intro pP eE sS mI aA bB mE cC A F hname hG ls hl
  have hx := F.1
  have hb := F.2.1
  have hl : lv_has ls 3 [(0, .ref (AD (9 + j))), (1, .int t), (2, .int d)] := hl
  refine lv_aload_n hx hb dX1_tune_0 rfl (lv_at hl 0 rfl) ?_
  refine lv_iload_n hx hb dX1_tune_1 rfl (lv_at hl 1 rfl) ?_
  refine gg_put F hG (ci := 1) 0 gcX1 rfl (gC_cset hj hn) (by decide) w1_48 rfl rfl rfl (Nat.le_of_ble_eq_true rfl) (pC_8 hj) dX1_tune_2 (fun H locs hG => ?_)
  have hG : gG Z A sS (wC Z AD (mu M 8 j 0 t) n) H locs := hG
  refine lv_aload_n hx hb dX1_tune_5 rfl (lv_at hl 0 rfl) ?_
  refine lv_iload_n hx hb dX1_tune_6 rfl (lv_at hl 2 rfl) ?_
  refine gg_put F hG (ci := 1) 1 gcX1 rfl (gC_cset hj hn) (by decide) w1_51 rfl rfl rfl (Nat.le_of_ble_eq_true rfl) (pC_9 hj) dX1_tune_7 (fun H locs hG => ?_)
  have hG : gG Z A sS (wC Z AD (mu (mu M 8 j 0 t) 9 j 0 d) n) H locs := hG
  refine lv_aload_n hx hb dX1_tune_10 rfl (lv_at hl 0 rfl) ?_
  refine lv_ldc hx hb F.2.2.2.1 (F.2.2.2.2.1 _ w2_193) dX1_tune_11 ?_
  refine lv_iload_n hx hb dX1_tune_13 rfl (lv_at hl 1 rfl) ?_
  refine lv_iload_n hx hb dX1_tune_14 rfl (lv_at hl 2 rfl) ?_
  refine lv_iadd hx hb dX1_tune_15 ?_
  refine gg_callSN F hG (As := [.int 100000, .int (t + d)]) (rest := [.ref (AD (9 + j))]) (c_X6_quotient Z l 100000 (t + d) _) kY_X6_quotient kV_X6_quotient wn_35 rfl ⟨rfl, rfl⟩ ⟨(Nat.le_of_ble_eq_true rfl), (Nat.le_of_ble_eq_true rfl)⟩ rfl (Nat.le_of_ble_eq_true rfl) hl.1 ⟨Nat.zero_le _, Nat.zero_le _⟩ dX1_tune_16 rfl (fun H locs hG => ?_)
  refine gg_put F hG (ci := 1) 4 gcX1 rfl (gC_cset hj hn) (by decide) w1_61 rfl rfl rfl (Nat.le_of_ble_eq_true rfl) (pC_12 hj) dX1_tune_19 (fun H locs hG => ?_)
  have hG : gG Z A sS (wC Z AD (mu (mu (mu M 8 j 0 t) 9 j 0 d) 12 j 0 (quoF 100000 (t + d))) n) H locs := hG
  refine lv_aload_n hx hb dX1_tune_22 rfl (lv_at hl 0 rfl) ?_
  refine lv_bipush (v := 10) hx hb dX1_tune_23 (by decide) ?_
  refine lv_bipush (v := 80) hx hb dX1_tune_25 (by decide) ?_
  refine lv_iload_n hx hb dX1_tune_27 rfl (lv_at hl 1 rfl) ?_
  refine lv_iconst (v := 3) hx hb dX1_tune_28 (by decide) ?_
  refine lv_idiv hx hb dX1_tune_29 (by decide) ?_
  refine lv_isub hx hb dX1_tune_30 ?_
  refine gg_max F hl.1 w2_197 (Nat.le_of_ble_eq_true rfl) (Nat.le_of_ble_eq_true rfl) (Nat.zero_le _) (Nat.zero_le _) dX1_tune_31 ?_
  refine gg_put F hG (ci := 1) 5 gcX1 rfl (gC_cset hj hn) (by decide) w1_63 rfl rfl rfl (Nat.le_of_ble_eq_true rfl) (pC_13 hj) dX1_tune_34 (fun H locs hG => ?_)
  have hG : gG Z A sS (wC Z AD (mu (mu (mu (mu M 8 j 0 t) 9 j 0 d) 12 j 0 (quoF 100000 (t + d))) 13 j 0 (if 10 < 80 - (t / 3) then 80 - (t / 3) else 10)) n) H locs := hG
  exact gg_vret F hG rfl dX1_tune_37
set_option maxRecDepth 100000 in
set_option maxHeartbeats 4000000 in
theorem c_X1_copyFrom (Z : gZ) (l : Launch) (AD : Nat → Nat) (M : St) (n : Nat) (hn : 78 ≤ n) (j k : Nat) (hj : j < 17) (hk : k < 17) : gM Z l yX1_copyFrom cX1_copyFrom 2 none ({ frames := 0, cells := 0, slots := 0, locals := 0 } : Room) [.ref (AD (9 + j)), .ref (AD (9 + k))] (wC Z AD M n) (none) (wC Z AD (mu (mu (mu (mu (mu (mu M 8 j 0 (M 8 k 0)) 9 j 0 (M 9 k 0)) 10 j 0 (M 10 k 0)) 11 j 0 (M 11 k 0)) 12 j 0 (M 12 k 0)) 13 j 0 (M 13 k 0)) n) 0 0 := by
  refine gM_of (by decide +kernel) (Nat.le_of_ble_eq_true rfl) ?_
  intro pP eE sS mI aA bB mE cC A F hname hG ls hl
  have hx := F.1
  have hb := F.2.1
  have hl : lv_has ls 2 [(0, .ref (AD (9 + j))), (1, .ref (AD (9 + k)))] := hl
  refine lv_aload_n hx hb dX1_copyFrom_0 rfl (lv_at hl 0 rfl) ?_
  refine lv_aload_n hx hb dX1_copyFrom_1 rfl (lv_at hl 1 rfl) ?_
  refine gg_get F hG (ci := 1) (v := .int (M 8 k 0)) 0 gcX1 rfl (gC_cset hk hn) (by decide) w1_48 rfl dX1_copyFrom_2 ?_
  refine gg_put F hG (ci := 1) 0 gcX1 rfl (gC_cset hj hn) (by decide) w1_48 rfl rfl rfl (Nat.le_of_ble_eq_true rfl) (pC_8 hj) dX1_copyFrom_5 (fun H locs hG => ?_)
  have hG : gG Z A sS (wC Z AD (mu M 8 j 0 (M 8 k 0)) n) H locs := hG
  refine lv_aload_n hx hb dX1_copyFrom_8 rfl (lv_at hl 0 rfl) ?_
  refine lv_aload_n hx hb dX1_copyFrom_9 rfl (lv_at hl 1 rfl) ?_
  refine gg_get F hG (ci := 1) (v := .int (M 9 k 0)) 1 gcX1 rfl (gC_cset hk hn) (by decide) w1_51 rfl dX1_copyFrom_10 ?_
  refine gg_put F hG (ci := 1) 1 gcX1 rfl (gC_cset hj hn) (by decide) w1_51 rfl rfl rfl (Nat.le_of_ble_eq_true rfl) (pC_9 hj) dX1_copyFrom_13 (fun H locs hG => ?_)
  have hG : gG Z A sS (wC Z AD (mu (mu M 8 j 0 (M 8 k 0)) 9 j 0 (M 9 k 0)) n) H locs := hG
  refine lv_aload_n hx hb dX1_copyFrom_16 rfl (lv_at hl 0 rfl) ?_
  refine lv_aload_n hx hb dX1_copyFrom_17 rfl (lv_at hl 1 rfl) ?_
  refine gg_get F hG (ci := 1) (v := .int (M 10 k 0)) 2 gcX1 rfl (gC_cset hk hn) (by decide) w1_55 rfl dX1_copyFrom_18 ?_
  refine gg_put F hG (ci := 1) 2 gcX1 rfl (gC_cset hj hn) (by decide) w1_55 rfl rfl rfl (Nat.le_of_ble_eq_true rfl) (pC_10 hj) dX1_copyFrom_21 (fun H locs hG => ?_)
  have hG : gG Z A sS (wC Z AD (mu (mu (mu M 8 j 0 (M 8 k 0)) 9 j 0 (M 9 k 0)) 10 j 0 (M 10 k 0)) n) H locs := hG
  refine lv_aload_n hx hb dX1_copyFrom_24 rfl (lv_at hl 0 rfl) ?_
  refine lv_aload_n hx hb dX1_copyFrom_25 rfl (lv_at hl 1 rfl) ?_
  refine gg_get F hG (ci := 1) (v := .int (M 11 k 0)) 3 gcX1 rfl (gC_cset hk hn) (by decide) w1_58 rfl dX1_copyFrom_26 ?_
  refine gg_put F hG (ci := 1) 3 gcX1 rfl (gC_cset hj hn) (by decide) w1_58 rfl rfl rfl (Nat.le_of_ble_eq_true rfl) (pC_11 hj) dX1_copyFrom_29 (fun H locs hG => ?_)
  have hG : gG Z A sS (wC Z AD (mu (mu (mu (mu M 8 j 0 (M 8 k 0)) 9 j 0 (M 9 k 0)) 10 j 0 (M 10 k 0)) 11 j 0 (M 11 k 0)) n) H locs := hG
  refine lv_aload_n hx hb dX1_copyFrom_32 rfl (lv_at hl 0 rfl) ?_
  refine lv_aload_n hx hb dX1_copyFrom_33 rfl (lv_at hl 1 rfl) ?_
  refine gg_get F hG (ci := 1) (v := .int (M 12 k 0)) 4 gcX1 rfl (gC_cset hk hn) (by decide) w1_61 rfl dX1_copyFrom_34 ?_
  refine gg_put F hG (ci := 1) 4 gcX1 rfl (gC_cset hj hn) (by decide) w1_61 rfl rfl rfl (Nat.le_of_ble_eq_true rfl) (pC_12 hj) dX1_copyFrom_37 (fun H locs hG => ?_)
  have hG : gG Z A sS (wC Z AD (mu (mu (mu (mu (mu M 8 j 0 (M 8 k 0)) 9 j 0 (M 9 k 0)) 10 j 0 (M 10 k 0)) 11 j 0 (M 11 k 0)) 12 j 0 (M 12 k 0)) n) H locs := hG
  refine lv_aload_n hx hb dX1_copyFrom_40 rfl (lv_at hl 0 rfl) ?_
  refine lv_aload_n hx hb dX1_copyFrom_41 rfl (lv_at hl 1 rfl) ?_
  refine gg_get F hG (ci := 1) (v := .int (M 13 k 0)) 5 gcX1 rfl (gC_cset hk hn) (by decide) w1_63 rfl dX1_copyFrom_42 ?_
  refine gg_put F hG (ci := 1) 5 gcX1 rfl (gC_cset hj hn) (by decide) w1_63 rfl rfl rfl (Nat.le_of_ble_eq_true rfl) (pC_13 hj) dX1_copyFrom_45 (fun H locs hG => ?_)
  have hG : gG Z A sS (wC Z AD (mu (mu (mu (mu (mu (mu M 8 j 0 (M 8 k 0)) 9 j 0 (M 9 k 0)) 10 j 0 (M 10 k 0)) 11 j 0 (M 11 k 0)) 12 j 0 (M 12 k 0)) 13 j 0 (M 13 k 0)) n) H locs := hG
  exact gg_vret F hG rfl dX1_copyFrom_48
set_option maxRecDepth 100000 in
set_option maxHeartbeats 4000000 in
theorem c_X1_strengthOf (Z : gZ) (l : Launch) (AD : Nat → Nat) (M : St) (n : Nat) (hn : 78 ≤ n) (j i : Nat) (hj : j < 17) (hi : 78 + i < n) (h : Int32) : gM Z l yX1_strengthOf cX1_strengthOf 5 (some .int) ({ frames := 1, cells := 0, slots := 0, locals := 22 } : Room) [.ref (AD (9 + j)), .ref (AD (78 + i)), .int h] (wC Z AD M n) (some (.int (strF M j i h))) (wC Z AD M n) 0 0 := by
  refine gM_of (by decide +kernel) (Nat.le_of_ble_eq_true rfl) ?_
  intro pP eE sS mI aA bB mE cC A F hname hG ls hl
  have hx := F.1
  have hb := F.2.1
  have hl : lv_has ls 5 [(0, .ref (AD (9 + j))), (1, .ref (AD (78 + i))), (2, .int h)] := hl
  refine lv_aload_n hx hb dX1_strengthOf_0 rfl (lv_at hl 0 rfl) ?_
  refine gg_get F hG (ci := 1) (v := .int (M 13 j 0)) 5 gcX1 rfl (gC_cset hj hn) (by decide) w1_63 rfl dX1_strengthOf_1 ?_
  refine lv_aload_n hx hb dX1_strengthOf_4 rfl (lv_at hl 1 rfl) ?_
  refine gg_getN F hG (ci := 4) (v := .int (M 0 i 0)) 0 gcX4 rfl (gC_stat hi) (by decide) wn_29 rfl dX1_strengthOf_5 ?_
  refine lv_aload_n hx hb dX1_strengthOf_8 rfl (lv_at hl 0 rfl) ?_
  refine gg_get F hG (ci := 1) (v := .int (M 12 j 0)) 4 gcX1 rfl (gC_cset hj hn) (by decide) w1_61 rfl dX1_strengthOf_9 ?_
  refine gg_callSN F hG (As := [.int (M 0 i 0), .int (M 12 j 0)]) (rest := [.int (M 13 j 0)]) (c_X6_distance Z l (M 0 i 0) (M 12 j 0) _) kY_X6_distance kV_X6_distance wn_36 rfl ⟨rfl, rfl⟩ ⟨(Nat.le_of_ble_eq_true rfl), (Nat.le_of_ble_eq_true rfl)⟩ rfl (Nat.le_of_ble_eq_true rfl) hl.1 ⟨Nat.zero_le _, Nat.zero_le _⟩ dX1_strengthOf_12 rfl (fun H locs hG => ?_)
  refine lv_isub hx hb dX1_strengthOf_15 ?_
  refine lv_istore_n (lv' := [(3, .int ((M 13 j 0) - (distF (M 0 i 0) (M 12 j 0)))), (0, .ref (AD (9 + j))), (1, .ref (AD (78 + i))), (2, .int h)]) hx hb dX1_strengthOf_16 rfl hl (by decide) rfl (fun ls hl => ?_)
  refine lv_iload_n hx hb dX1_strengthOf_17 rfl (lv_at hl 0 rfl) ?_
  refine lv_if_gt (tgt := 23) hx hb dX1_strengthOf_18 (by decide) (fun h18 => ?_) (fun h18 => ?_)
  · refine lv_aload_n hx hb dX1_strengthOf_23 rfl (lv_at hl 2 rfl) ?_
    refine gg_getN F hG (ci := 4) (v := .int (M 0 i 1)) 1 gcX4 rfl (gC_stat hi) (by decide) wn_31 rfl dX1_strengthOf_24 ?_
    refine lv_aload_n hx hb dX1_strengthOf_27 rfl (lv_at hl 2 rfl) ?_
    refine lv_iload_n hx hb dX1_strengthOf_28 rfl (lv_at hl 3 rfl) ?_
    refine gg_callV F hG (ci := 4) (As := [.int h]) (rest := [.int (M 0 i 1)]) (c_X4_fading Z l AD M _ hn i hi h) kY_X4_fading kV_X4_fading (gC_stat hi) rfl rfl w3_56 rfl ⟨rfl, rfl⟩ ⟨(Nat.le_of_ble_eq_true rfl), (Nat.le_of_ble_eq_true rfl)⟩ rfl (Nat.le_of_ble_eq_true rfl) hl.1 ⟨Nat.zero_le _, Nat.zero_le _⟩ dX1_strengthOf_29 rfl (fun H locs hG => ?_)
    refine lv_imul hx hb dX1_strengthOf_32 ?_
    refine lv_aload_n hx hb dX1_strengthOf_33 rfl (lv_at hl 1 rfl) ?_
    refine gg_get F hG (ci := 1) (v := .int (M 10 j 0)) 2 gcX1 rfl (gC_cset hj hn) (by decide) w1_55 rfl dX1_strengthOf_34 ?_
    refine lv_imul hx hb dX1_strengthOf_37 ?_
    refine lv_bipush (v := 10) hx hb dX1_strengthOf_38 (by decide) ?_
    refine lv_aload_n hx hb dX1_strengthOf_40 rfl (lv_at hl 2 rfl) ?_
    refine gg_getN F hG (ci := 4) (v := .int (M 0 i 2)) 2 gcX4 rfl (gC_stat hi) (by decide) wn_33 rfl dX1_strengthOf_41 ?_
    refine lv_imul hx hb dX1_strengthOf_44 ?_
    refine gg_callSN F hG (As := [.int (((M 0 i 1) * (fadF (M 0 i 5) h)) * (M 10 j 0)), .int (10 * (M 0 i 2))]) (rest := []) (c_X6_quotient Z l (((M 0 i 1) * (fadF (M 0 i 5) h)) * (M 10 j 0)) (10 * (M 0 i 2)) _) kY_X6_quotient kV_X6_quotient wn_35 rfl ⟨rfl, rfl⟩ ⟨(Nat.le_of_ble_eq_true rfl), (Nat.le_of_ble_eq_true rfl)⟩ rfl (Nat.le_of_ble_eq_true rfl) hl.1 ⟨Nat.zero_le _, Nat.zero_le _⟩ dX1_strengthOf_45 rfl (fun H locs hG => ?_)
    refine lv_istore (lv' := [(4, .int (quoF (((M 0 i 1) * (fadF (M 0 i 5) h)) * (M 10 j 0)) (10 * (M 0 i 2)))), (3, .int ((M 13 j 0) - (distF (M 0 i 0) (M 12 j 0)))), (0, .ref (AD (9 + j))), (1, .ref (AD (78 + i))), (2, .int h)]) hx hb dX1_strengthOf_48 hl (by decide) rfl (fun ls hl => ?_)
    refine lv_iload hx hb dX1_strengthOf_50 (lv_at hl 0 rfl) ?_
    refine lv_iload_n hx hb dX1_strengthOf_52 rfl (lv_at hl 1 rfl) ?_
    refine lv_imul hx hb dX1_strengthOf_53 ?_
    refine lv_aload_n hx hb dX1_strengthOf_54 rfl (lv_at hl 2 rfl) ?_
    refine gg_get F hG (ci := 1) (v := .int (M 13 j 0)) 5 gcX1 rfl (gC_cset hj hn) (by decide) w1_63 rfl dX1_strengthOf_55 ?_
    refine gg_callSN F hG (As := [.int ((quoF (((M 0 i 1) * (fadF (M 0 i 5) h)) * (M 10 j 0)) (10 * (M 0 i 2))) * ((M 13 j 0) - (distF (M 0 i 0) (M 12 j 0)))), .int (M 13 j 0)]) (rest := []) (c_X6_quotient Z l ((quoF (((M 0 i 1) * (fadF (M 0 i 5) h)) * (M 10 j 0)) (10 * (M 0 i 2))) * ((M 13 j 0) - (distF (M 0 i 0) (M 12 j 0)))) (M 13 j 0) _) kY_X6_quotient kV_X6_quotient wn_35 rfl ⟨rfl, rfl⟩ ⟨(Nat.le_of_ble_eq_true rfl), (Nat.le_of_ble_eq_true rfl)⟩ rfl (Nat.le_of_ble_eq_true rfl) hl.1 ⟨Nat.zero_le _, Nat.zero_le _⟩ dX1_strengthOf_58 rfl (fun H locs hG => ?_)
    refine lv_iconst (v := 1) hx hb dX1_strengthOf_61 (by decide) ?_
    refine lv_aload_n hx hb dX1_strengthOf_62 rfl (lv_at hl 2 rfl) ?_
    refine gg_get F hG (ci := 1) (v := .int (M 11 j 0)) 3 gcX1 rfl (gC_cset hj hn) (by decide) w1_58 rfl dX1_strengthOf_63 ?_
    refine lv_iadd hx hb dX1_strengthOf_66 ?_
    refine lv_imul hx hb dX1_strengthOf_67 ?_
    refine lv_bipush (v := 10) hx hb dX1_strengthOf_68 (by decide) ?_
    refine lv_idiv hx hb dX1_strengthOf_70 (by decide) ?_
    exact gg_iret F hG rfl (by rw [strF, strN, if_pos h18]) rfl dX1_strengthOf_71
  · refine lv_iconst (v := 0) hx hb dX1_strengthOf_21 (by decide) ?_
    exact gg_iret F hG rfl (by rw [strF, strN, if_neg h18]) rfl dX1_strengthOf_22
set_option maxRecDepth 100000 in
set_option maxHeartbeats 4000000 in
theorem c_X2_clear (Z : gZ) (l : Launch) (AD : Nat → Nat) (M : St) (n : Nat) (hn : 78 ≤ n) (c : Nat) (hc : c < 2) : gM Z l yX2_clear cX2_clear 1 none ({ frames := 0, cells := 0, slots := 0, locals := 0 } : Room) [.ref (AD (7 + c))] (wC Z AD M n) (none) (wC Z AD (setQ M c (0, -1, 0, 0)) n) 0 0 := by
  refine gM_of (by decide +kernel) (Nat.le_of_ble_eq_true rfl) ?_
  intro pP eE sS mI aA bB mE cC A F hname hG ls hl
  have hx := F.1
  have hb := F.2.1
  have hl : lv_has ls 1 [(0, .ref (AD (7 + c)))] := hl
  refine lv_aload_n hx hb dX2_clear_0 rfl (lv_at hl 0 rfl) ?_
  refine lv_iconst (v := 0) hx hb dX2_clear_1 (by decide) ?_
  refine gg_put F hG (ci := 2) 0 gcX2 rfl (gC_hear hc hn) (by decide) w1_126 rfl rfl rfl (Nat.le_of_ble_eq_true rfl) (pC_4 hc) dX2_clear_2 (fun H locs hG => ?_)
  have hG : gG Z A sS (wC Z AD (mu M 4 c 0 0) n) H locs := hG
  refine lv_aload_n hx hb dX2_clear_5 rfl (lv_at hl 0 rfl) ?_
  refine lv_iconst (v := (-1)) hx hb dX2_clear_6 (by decide) ?_
  refine gg_put F hG (ci := 2) 1 gcX2 rfl (gC_hear hc hn) (by decide) w1_127 rfl rfl rfl (Nat.le_of_ble_eq_true rfl) (pC_5 hc) dX2_clear_7 (fun H locs hG => ?_)
  have hG : gG Z A sS (wC Z AD (mu (mu M 4 c 0 0) 5 c 0 (-1)) n) H locs := hG
  refine lv_aload_n hx hb dX2_clear_10 rfl (lv_at hl 0 rfl) ?_
  refine lv_iconst (v := 0) hx hb dX2_clear_11 (by decide) ?_
  refine gg_put F hG (ci := 2) 2 gcX2 rfl (gC_hear hc hn) (by decide) w1_128 rfl rfl rfl (Nat.le_of_ble_eq_true rfl) (pC_6 hc) dX2_clear_12 (fun H locs hG => ?_)
  have hG : gG Z A sS (wC Z AD (mu (mu (mu M 4 c 0 0) 5 c 0 (-1)) 6 c 0 0) n) H locs := hG
  refine lv_aload_n hx hb dX2_clear_15 rfl (lv_at hl 0 rfl) ?_
  refine lv_iconst (v := 0) hx hb dX2_clear_16 (by decide) ?_
  refine gg_put F hG (ci := 2) 3 gcX2 rfl (gC_hear hc hn) (by decide) w1_130 rfl rfl rfl (Nat.le_of_ble_eq_true rfl) (pC_7 hc) dX2_clear_17 (fun H locs hG => ?_)
  have hG : gG Z A sS (wC Z AD (mu (mu (mu (mu M 4 c 0 0) 5 c 0 (-1)) 6 c 0 0) 7 c 0 0) n) H locs := hG
  exact gg_vret F hG (congrArg (fun q => wC Z AD q n) (setH_ext (fun f i j h => by rw [mu_of (by omega), mu_of (by omega), mu_of (by omega), mu_of (by omega)]) (by simp [mu, upd]) (by simp [mu, upd]) (by simp [mu, upd]) (by simp [mu, upd]))) dX2_clear_20
set_option maxRecDepth 100000 in
set_option maxHeartbeats 4000000 in
theorem c_X2_offer (Z : gZ) (l : Launch) (AD : Nat → Nat) (M : St) (n : Nat) (hn : 78 ≤ n) (c : Nat) (hc : c < 2) (k st : Int32) : gM Z l yX2_offer cX2_offer 3 none ({ frames := 0, cells := 0, slots := 0, locals := 0 } : Room) [.ref (AD (7 + c)), .int k, .int st] (wC Z AD M n) (none) (wC Z AD (setQ M c (hstep (getQ M c) k st)) n) 0 0 := by
  refine gM_of (by decide +kernel) (Nat.le_of_ble_eq_true rfl) ?_
  intro pP eE sS mI aA bB mE cC A F hname hG ls hl
  have hx := F.1
  have hb := F.2.1
  have hl : lv_has ls 3 [(0, .ref (AD (7 + c))), (1, .int k), (2, .int st)] := hl
  refine lv_iload_n hx hb dX2_offer_0 rfl (lv_at hl 2 rfl) ?_
  refine lv_if_gt (tgt := 5) hx hb dX2_offer_1 (by decide) (fun h1 => ?_) (fun h1 => ?_)
  · refine lv_aload_n hx hb dX2_offer_5 rfl (lv_at hl 0 rfl) ?_
    refine lv_dup hx hb dX2_offer_6 rfl ?_
    refine gg_get F hG (ci := 2) (v := .int (M 4 c 0)) 0 gcX2 rfl (gC_hear hc hn) (by decide) w1_126 rfl dX2_offer_7 ?_
    refine lv_iconst (v := 1) hx hb dX2_offer_10 (by decide) ?_
    refine lv_iadd hx hb dX2_offer_11 ?_
    refine gg_put F hG (ci := 2) 0 gcX2 rfl (gC_hear hc hn) (by decide) w1_126 rfl rfl rfl (Nat.le_of_ble_eq_true rfl) (pC_4 hc) dX2_offer_12 (fun H locs hG => ?_)
    have hG : gG Z A sS (wC Z AD (mu M 4 c 0 ((M 4 c 0) + 1)) n) H locs := hG
    refine lv_iload_n hx hb dX2_offer_15 rfl (lv_at hl 2 rfl) ?_
    refine lv_aload_n hx hb dX2_offer_16 rfl (lv_at hl 0 rfl) ?_
    refine gg_get F hG (ci := 2) (v := .int (M 6 c 0)) 2 gcX2 rfl (gC_hear hc hn) (by decide) w1_128 rfl dX2_offer_17 ?_
    refine lv_icmp_le (tgt := 44) hx hb dX2_offer_20 (by decide) (fun h20 => ?_) (fun h20 => ?_)
    · refine lv_iload_n hx hb dX2_offer_44 rfl (lv_at hl 2 rfl) ?_
      refine lv_aload_n hx hb dX2_offer_45 rfl (lv_at hl 0 rfl) ?_
      refine gg_get F hG (ci := 2) (v := .int (M 7 c 0)) 3 gcX2 rfl (gC_hear hc hn) (by decide) w1_130 rfl dX2_offer_46 ?_
      refine lv_icmp_le (tgt := 57) hx hb dX2_offer_49 (by decide) (fun h49 => ?_) (fun h49 => ?_)
      · exact gg_vret F hG (congrArg (fun q => wC Z AD q n) (Eq.trans (setH_ext (fun f i j h => by rw [mu_of (by omega)]) (by simp [mu, upd, getQ]) (by simp [mu, upd, getQ]) (by simp [mu, upd, getQ]) (by simp [mu, upd, getQ])) (congrArg (setQ M c) (Eq.symm ((if_pos h1).trans ((if_pos h20).trans (if_pos h49))))))) dX2_offer_57
      · refine lv_aload_n hx hb dX2_offer_52 rfl (lv_at hl 0 rfl) ?_
        refine lv_iload_n hx hb dX2_offer_53 rfl (lv_at hl 2 rfl) ?_
        refine gg_put F hG (ci := 2) 3 gcX2 rfl (gC_hear hc hn) (by decide) w1_130 rfl rfl rfl (Nat.le_of_ble_eq_true rfl) (pC_7 hc) dX2_offer_54 (fun H locs hG => ?_)
        have hG : gG Z A sS (wC Z AD (mu (mu M 4 c 0 ((M 4 c 0) + 1)) 7 c 0 st) n) H locs := hG
        exact gg_vret F hG (congrArg (fun q => wC Z AD q n) (Eq.trans (setH_ext (fun f i j h => by rw [mu_of (by omega), mu_of (by omega)]) (by simp [mu, upd, getQ]) (by simp [mu, upd, getQ]) (by simp [mu, upd, getQ]) (by simp [mu, upd, getQ])) (congrArg (setQ M c) (Eq.symm ((if_pos h1).trans ((if_pos h20).trans (if_neg h49))))))) dX2_offer_57
    · refine lv_aload_n hx hb dX2_offer_23 rfl (lv_at hl 0 rfl) ?_
      refine lv_aload_n hx hb dX2_offer_24 rfl (lv_at hl 0 rfl) ?_
      refine gg_get F hG (ci := 2) (v := .int (M 6 c 0)) 2 gcX2 rfl (gC_hear hc hn) (by decide) w1_128 rfl dX2_offer_25 ?_
      refine gg_put F hG (ci := 2) 3 gcX2 rfl (gC_hear hc hn) (by decide) w1_130 rfl rfl rfl (Nat.le_of_ble_eq_true rfl) (pC_7 hc) dX2_offer_28 (fun H locs hG => ?_)
      have hG : gG Z A sS (wC Z AD (mu (mu M 4 c 0 ((M 4 c 0) + 1)) 7 c 0 (M 6 c 0)) n) H locs := hG
      refine lv_aload_n hx hb dX2_offer_31 rfl (lv_at hl 0 rfl) ?_
      refine lv_iload_n hx hb dX2_offer_32 rfl (lv_at hl 2 rfl) ?_
      refine gg_put F hG (ci := 2) 2 gcX2 rfl (gC_hear hc hn) (by decide) w1_128 rfl rfl rfl (Nat.le_of_ble_eq_true rfl) (pC_6 hc) dX2_offer_33 (fun H locs hG => ?_)
      have hG : gG Z A sS (wC Z AD (mu (mu (mu M 4 c 0 ((M 4 c 0) + 1)) 7 c 0 (M 6 c 0)) 6 c 0 st) n) H locs := hG
      refine lv_aload_n hx hb dX2_offer_36 rfl (lv_at hl 0 rfl) ?_
      refine lv_iload_n hx hb dX2_offer_37 rfl (lv_at hl 1 rfl) ?_
      refine gg_put F hG (ci := 2) 1 gcX2 rfl (gC_hear hc hn) (by decide) w1_127 rfl rfl rfl (Nat.le_of_ble_eq_true rfl) (pC_5 hc) dX2_offer_38 (fun H locs hG => ?_)
      have hG : gG Z A sS (wC Z AD (mu (mu (mu (mu M 4 c 0 ((M 4 c 0) + 1)) 7 c 0 (M 6 c 0)) 6 c 0 st) 5 c 0 k) n) H locs := hG
      refine lv_goto (tgt := 57) hx hb dX2_offer_41 (by decide) ?_
      exact gg_vret F hG (congrArg (fun q => wC Z AD q n) (Eq.trans (setH_ext (fun f i j h => by rw [mu_of (by omega), mu_of (by omega), mu_of (by omega), mu_of (by omega)]) (by simp [mu, upd, getQ]) (by simp [mu, upd, getQ]) (by simp [mu, upd, getQ]) (by simp [mu, upd, getQ])) (congrArg (setQ M c) (Eq.symm ((if_pos h1).trans (if_neg h20)))))) dX2_offer_57
  · exact gg_vret F hG (congrArg (fun q => wC Z AD q n) (setQ_g.symm.trans (congrArg (setQ M c) (Eq.symm (if_neg h1))))) dX2_offer_4
set_option maxRecDepth 100000 in
set_option maxHeartbeats 4000000 in
theorem c_X2_verdict (Z : gZ) (l : Launch) (AD : Nat → Nat) (M : St) (n : Nat) (hn : 78 ≤ n) (c : Nat) (hc : c < 2) : gM Z l yX2_verdict cX2_verdict 1 (some .int) ({ frames := 0, cells := 0, slots := 0, locals := 0 } : Room) [.ref (AD (7 + c))] (wC Z AD M n) (some (.int (verQ (getQ M c)))) (wC Z AD M n) 0 0 := by
  refine gM_of (by decide +kernel) (Nat.le_of_ble_eq_true rfl) ?_
  intro pP eE sS mI aA bB mE cC A F hname hG ls hl
  have hx := F.1
  have hb := F.2.1
  have hl : lv_has ls 1 [(0, .ref (AD (7 + c)))] := hl
  refine lv_aload_n hx hb dX2_verdict_0 rfl (lv_at hl 0 rfl) ?_
  refine gg_get F hG (ci := 2) (v := .int (M 6 c 0)) 2 gcX2 rfl (gC_hear hc hn) (by decide) w1_128 rfl dX2_verdict_1 ?_
  refine lv_iconst (v := 5) hx hb dX2_verdict_4 (by decide) ?_
  refine lv_icmp_lt (tgt := 26) hx hb dX2_verdict_5 (by decide) (fun h5 => ?_) (fun h5 => ?_)
  · refine lv_aload_n hx hb dX2_verdict_26 rfl (lv_at hl 0 rfl) ?_
    refine gg_get F hG (ci := 2) (v := .int (M 4 c 0)) 0 gcX2 rfl (gC_hear hc hn) (by decide) w1_126 rfl dX2_verdict_27 ?_
    refine lv_iconst (v := 2) hx hb dX2_verdict_30 (by decide) ?_
    refine lv_icmp_lt (tgt := 39) hx hb dX2_verdict_31 (by decide) (fun h31 => ?_) (fun h31 => ?_)
    · refine lv_iconst (v := (-1)) hx hb dX2_verdict_39 (by decide) ?_
      exact gg_iret F hG rfl (Eq.symm ((if_pos h5).trans (if_pos h31))) rfl dX2_verdict_40
    · refine lv_bipush (v := (-2)) hx hb dX2_verdict_34 (by decide) ?_
      refine lv_goto (tgt := 40) hx hb dX2_verdict_36 (by decide) ?_
      exact gg_iret F hG rfl (Eq.symm ((if_pos h5).trans (if_neg h31))) rfl dX2_verdict_40
  · refine lv_iconst (v := 2) hx hb dX2_verdict_8 (by decide) ?_
    refine lv_aload_n hx hb dX2_verdict_9 rfl (lv_at hl 0 rfl) ?_
    refine gg_get F hG (ci := 2) (v := .int (M 7 c 0)) 3 gcX2 rfl (gC_hear hc hn) (by decide) w1_130 rfl dX2_verdict_10 ?_
    refine lv_imul hx hb dX2_verdict_13 ?_
    refine lv_aload_n hx hb dX2_verdict_14 rfl (lv_at hl 0 rfl) ?_
    refine gg_get F hG (ci := 2) (v := .int (M 6 c 0)) 2 gcX2 rfl (gC_hear hc hn) (by decide) w1_128 rfl dX2_verdict_15 ?_
    refine lv_icmp_gt (tgt := 26) hx hb dX2_verdict_18 (by decide) (fun h18 => ?_) (fun h18 => ?_)
    · refine lv_aload_n hx hb dX2_verdict_26 rfl (lv_at hl 0 rfl) ?_
      refine gg_get F hG (ci := 2) (v := .int (M 4 c 0)) 0 gcX2 rfl (gC_hear hc hn) (by decide) w1_126 rfl dX2_verdict_27 ?_
      refine lv_iconst (v := 2) hx hb dX2_verdict_30 (by decide) ?_
      refine lv_icmp_lt (tgt := 39) hx hb dX2_verdict_31 (by decide) (fun h31 => ?_) (fun h31 => ?_)
      · refine lv_iconst (v := (-1)) hx hb dX2_verdict_39 (by decide) ?_
        exact gg_iret F hG rfl (Eq.symm ((if_neg h5).trans ((if_pos h18).trans (if_pos h31)))) rfl dX2_verdict_40
      · refine lv_bipush (v := (-2)) hx hb dX2_verdict_34 (by decide) ?_
        refine lv_goto (tgt := 40) hx hb dX2_verdict_36 (by decide) ?_
        exact gg_iret F hG rfl (Eq.symm ((if_neg h5).trans ((if_pos h18).trans (if_neg h31)))) rfl dX2_verdict_40
    · refine lv_aload_n hx hb dX2_verdict_21 rfl (lv_at hl 0 rfl) ?_
      refine gg_get F hG (ci := 2) (v := .int (M 5 c 0)) 1 gcX2 rfl (gC_hear hc hn) (by decide) w1_127 rfl dX2_verdict_22 ?_
      exact gg_iret F hG rfl (Eq.symm ((if_neg h5).trans (if_neg h18))) rfl dX2_verdict_25
end
section
/-! the class's tables and members -/
/-- the first i numbers of table u stand in table t too -/
def cpN (M : St) (t u i : Nat) : St := fun f => if f = 16 then (fun a => if a = t then (fun j => if j < i then M 16 u j else M 16 t j) else M 16 a) else M f
theorem cpN_0 {M : St} {t u : Nat} : cpN M t u 0 = M := by
  refine st_ext fun f a j => ?_
  by_cases hf : f = 16
  · by_cases ha : a = t
    · subst hf; subst ha; simp [cpN]
    · subst hf; simp [cpN, ha]
  · simp [cpN, hf]
theorem cpN_s {M : St} {t u i : Nat} (h : t ≠ u) : mu (cpN M t u i) 16 t i (cpN M t u i 16 u i) = cpN M t u (i + 1) := by
  refine st_ext fun f a j => ?_
  have hu : cpN M t u i 16 u i = M 16 u i := by simp [cpN, Ne.symm h]
  rw [hu]
  by_cases hf : f = 16
  · by_cases ha : a = t
    · subst hf; subst ha
      by_cases hj : j = i
      · subst hj; rw [mu_s]; simp [cpN]
      · rw [mu_j hj]
        by_cases hlt : j < i
        · simp [cpN, hlt, show j < i + 1 by omega]
        · simp [cpN, hlt, show ¬ j < i + 1 by omega]
    · rw [mu_ne (fun q => ha q.2)]; subst hf; simp [cpN, ha]
  · rw [mu_o hf]; simp [cpN, hf]
/-- three numbers of a letter go to another place -/
def cpR (M : St) (t fr to : Nat) : St := mu (mu (mu M 16 t (to * 3) (M 16 t (fr * 3))) 16 t (to * 3 + 1) (M 16 t (fr * 3 + 1))) 16 t (to * 3 + 2) (M 16 t (fr * 3 + 2))
/-- a column's sum -/
def sumF (M : St) (t k : Nat) : Nat → Int32
  | 0 => 0
  | i + 1 => sumF M t k i + M 16 t (i * 4 + k)
set_option maxRecDepth 100000 in
set_option maxHeartbeats 4000000 in
theorem c_X5_at (Z : gZ) (l : Launch) (AD : Nat → Nat) (M : St) (n : Nat) (hn : 78 ≤ n) (t r k q N : Nat) (ht : t < 18) (hq : (if t < 16 then (4 : Int32) else 3) = nI q) (hN : (if t < 16 then 160 else 90) = N) (hN2 : N ≤ 160) (hrk : r * q + k < N) : gM Z l yX5_at cX5_at 4 (some .int) ({ frames := 0, cells := 0, slots := 0, locals := 0 } : Room) [.ref (AD (42 + t)), .int (nI r), .int (nI k)] (wC Z AD M n) (some (.int (M 16 t (r * q + k)))) (wC Z AD M n) 0 0 := by
  refine gM_of (by decide +kernel) (Nat.le_of_ble_eq_true rfl) ?_
  intro pP eE sS mI aA bB mE cC A F hname hG ls hl
  have hx := F.1
  have hb := F.2.1
  have hl : lv_has ls 4 [(0, .ref (AD (42 + t))), (1, .int (nI r)), (2, .int (nI k))] := hl
  refine lv_iload_n hx hb dX5_at_0 rfl (lv_at hl 1 rfl) ?_
  refine lv_aload_n hx hb dX5_at_1 rfl (lv_at hl 0 rfl) ?_
  refine gg_get F hG (ci := 5) (v := .int (nI q)) 0 gcX5 rfl (gC_tabl ht hn) (by decide) w1_87 (congrArg (fun z => some (Value.int z)) hq) dX5_at_2 ?_
  refine lv_imul hx hb dX5_at_5 ?_
  rw [show ((nI r) * (nI q) : Int32) = nI (r * q) from pk_mul _ _]
  refine lv_iload_n hx hb dX5_at_6 rfl (lv_at hl 2 rfl) ?_
  refine lv_iadd hx hb dX5_at_7 ?_
  rw [show ((nI (r * q)) + (nI k) : Int32) = nI (r * q + k) from nI_add _ _]
  refine lv_istore_n (lv' := [(3, .int (nI (r * q + k))), (0, .ref (AD (42 + t))), (1, .int (nI r)), (2, .int (nI k))]) hx hb dX5_at_8 rfl hl (by decide) rfl (fun ls hl => ?_)
  refine lv_iload_n hx hb dX5_at_9 rfl (lv_at hl 0 rfl) ?_
  refine lv_if_lt (tgt := 31) hx hb dX5_at_10 (by decide) (fun h10 => absurd h10 (nI_pos (n := r * q + k) (by omega))) (fun h10 => ?_)
  refine lv_iload_n hx hb dX5_at_13 rfl (lv_at hl 0 rfl) ?_
  refine lv_aload_n hx hb dX5_at_14 rfl (lv_at hl 1 rfl) ?_
  refine gg_get F hG (ci := 5) (v := .ref (AD (60 + t))) 1 gcX5 rfl (gC_tabl ht hn) (by decide) w1_89 rfl dX5_at_15 ?_
  refine gg_alen F hG (t0 := 0) (v := nI N) (gC_cell ht hn) rfl (congrArg Int32.ofNat hN) dX5_at_18 ?_
  refine lv_icmp_ge (tgt := 31) hx hb dX5_at_19 (by decide) (fun h19 => absurd h19 (nI_ge hrk (by omega))) (fun h19 => ?_)
  refine lv_aload_n hx hb dX5_at_22 rfl (lv_at hl 1 rfl) ?_
  refine gg_get F hG (ci := 5) (v := .ref (AD (60 + t))) 1 gcX5 rfl (gC_tabl ht hn) (by decide) w1_89 rfl dX5_at_23 ?_
  refine lv_iload_n hx hb dX5_at_26 rfl (lv_at hl 0 rfl) ?_
  refine gg_ialdN F hG (r * q + k) (gC_cell ht hn) rfl (by rw [hN]; exact hrk) (by split <;> omega) dX5_at_27 ?_
  refine lv_goto (tgt := 32) hx hb dX5_at_28 (by decide) ?_
  exact gg_iret F hG rfl rfl rfl dX5_at_32
set_option maxRecDepth 100000 in
set_option maxHeartbeats 4000000 in
theorem c_X5_put (Z : gZ) (l : Launch) (AD : Nat → Nat) (M : St) (n : Nat) (hn : 78 ≤ n) (t r k q N : Nat) (ht : t < 18) (hq : (if t < 16 then (4 : Int32) else 3) = nI q) (hN : (if t < 16 then 160 else 90) = N) (hN2 : N ≤ 160) (hrk : r * q + k < N) (x : Int32) : gM Z l yX5_put cX5_put 5 none ({ frames := 0, cells := 0, slots := 0, locals := 0 } : Room) [.ref (AD (42 + t)), .int (nI r), .int (nI k), .int x] (wC Z AD M n) (none) (wC Z AD (mu M 16 t (r * q + k) x) n) 0 0 := by
  refine gM_of (by decide +kernel) (Nat.le_of_ble_eq_true rfl) ?_
  intro pP eE sS mI aA bB mE cC A F hname hG ls hl
  have hx := F.1
  have hb := F.2.1
  have hl : lv_has ls 5 [(0, .ref (AD (42 + t))), (1, .int (nI r)), (2, .int (nI k)), (3, .int x)] := hl
  refine lv_iload_n hx hb dX5_put_0 rfl (lv_at hl 1 rfl) ?_
  refine lv_aload_n hx hb dX5_put_1 rfl (lv_at hl 0 rfl) ?_
  refine gg_get F hG (ci := 5) (v := .int (nI q)) 0 gcX5 rfl (gC_tabl ht hn) (by decide) w1_87 (congrArg (fun z => some (Value.int z)) hq) dX5_put_2 ?_
  refine lv_imul hx hb dX5_put_5 ?_
  rw [show ((nI r) * (nI q) : Int32) = nI (r * q) from pk_mul _ _]
  refine lv_iload_n hx hb dX5_put_6 rfl (lv_at hl 2 rfl) ?_
  refine lv_iadd hx hb dX5_put_7 ?_
  rw [show ((nI (r * q)) + (nI k) : Int32) = nI (r * q + k) from nI_add _ _]
  refine lv_istore (lv' := [(4, .int (nI (r * q + k))), (0, .ref (AD (42 + t))), (1, .int (nI r)), (2, .int (nI k)), (3, .int x)]) hx hb dX5_put_8 hl (by decide) rfl (fun ls hl => ?_)
  refine lv_iload hx hb dX5_put_10 (lv_at hl 0 rfl) ?_
  refine lv_if_lt (tgt := 33) hx hb dX5_put_12 (by decide) (fun h12 => absurd h12 (nI_pos (n := r * q + k) (by omega))) (fun h12 => ?_)
  refine lv_iload hx hb dX5_put_15 (lv_at hl 0 rfl) ?_
  refine lv_aload_n hx hb dX5_put_17 rfl (lv_at hl 1 rfl) ?_
  refine gg_get F hG (ci := 5) (v := .ref (AD (60 + t))) 1 gcX5 rfl (gC_tabl ht hn) (by decide) w1_89 rfl dX5_put_18 ?_
  refine gg_alen F hG (t0 := 0) (v := nI N) (gC_cell ht hn) rfl (congrArg Int32.ofNat hN) dX5_put_21 ?_
  refine lv_icmp_ge (tgt := 33) hx hb dX5_put_22 (by decide) (fun h22 => absurd h22 (nI_ge hrk (by omega))) (fun h22 => ?_)
  refine lv_aload_n hx hb dX5_put_25 rfl (lv_at hl 1 rfl) ?_
  refine gg_get F hG (ci := 5) (v := .ref (AD (60 + t))) 1 gcX5 rfl (gC_tabl ht hn) (by decide) w1_89 rfl dX5_put_26 ?_
  refine lv_iload hx hb dX5_put_29 (lv_at hl 0 rfl) ?_
  refine lv_iload_n hx hb dX5_put_31 rfl (lv_at hl 4 rfl) ?_
  refine gg_iastN F hG (r * q + k) (gC_cell ht hn) rfl (by rw [hN]; exact hrk) (by split <;> omega) (pC_16 ht) dX5_put_32 (fun H locs hG => ?_)
  have hG : gG Z A sS (wC Z AD (mu M 16 t (r * q + k) x) n) H locs := hG
  exact gg_vret F hG rfl dX5_put_33
set_option maxRecDepth 100000 in
set_option maxHeartbeats 4000000 in
theorem c_X5_isFull (Z : gZ) (l : Launch) (AD : Nat → Nat) (M : St) (n : Nat) (hn : 78 ≤ n) (t q N s : Nat) (ht : t < 18) (hq : (if t < 16 then (4 : Int32) else 3) = nI q) (hN : (if t < 16 then 160 else 90) = N) (hN2 : N ≤ 160) (hs : M 15 t 0 = nI s) (hs2 : (s + 1) * q < 1000) : gM Z l yX5_isFull cX5_isFull 1 (some .boolean) ({ frames := 0, cells := 0, slots := 0, locals := 0 } : Room) [.ref (AD (42 + t))] (wC Z AD M n) (some (.int (if (s + 1) * q ≤ N then 0 else 1))) (wC Z AD M n) 0 0 := by
  refine gM_of (by decide +kernel) (Nat.le_of_ble_eq_true rfl) ?_
  intro pP eE sS mI aA bB mE cC A F hname hG ls hl
  have hx := F.1
  have hb := F.2.1
  have hl : lv_has ls 1 [(0, .ref (AD (42 + t)))] := hl
  refine lv_aload_n hx hb dX5_isFull_0 rfl (lv_at hl 0 rfl) ?_
  refine gg_get F hG (ci := 5) (v := .int (nI s)) 2 gcX5 rfl (gC_tabl ht hn) (by decide) w1_90 (congrArg (fun z => some (Value.int z)) hs) dX5_isFull_1 ?_
  refine lv_iconst (v := 1) hx hb dX5_isFull_4 (by decide) ?_
  refine lv_iadd hx hb dX5_isFull_5 ?_
  rw [show ((nI s) + 1 : Int32) = nI (s + 1) from nI_1 _]
  refine lv_aload_n hx hb dX5_isFull_6 rfl (lv_at hl 0 rfl) ?_
  refine gg_get F hG (ci := 5) (v := .int (nI q)) 0 gcX5 rfl (gC_tabl ht hn) (by decide) w1_87 (congrArg (fun z => some (Value.int z)) hq) dX5_isFull_7 ?_
  refine lv_imul hx hb dX5_isFull_10 ?_
  rw [show ((nI (s + 1)) * (nI q) : Int32) = nI ((s + 1) * q) from pk_mul _ _]
  refine lv_aload_n hx hb dX5_isFull_11 rfl (lv_at hl 0 rfl) ?_
  refine gg_get F hG (ci := 5) (v := .ref (AD (60 + t))) 1 gcX5 rfl (gC_tabl ht hn) (by decide) w1_89 rfl dX5_isFull_12 ?_
  refine gg_alen F hG (t0 := 0) (v := nI N) (gC_cell ht hn) rfl (congrArg Int32.ofNat hN) dX5_isFull_15 ?_
  refine lv_icmp_le (tgt := 23) hx hb dX5_isFull_16 (by decide) (fun h16 => ?_) (fun h16 => ?_)
  · refine lv_iconst (v := 0) hx hb dX5_isFull_23 (by decide) ?_
    exact gg_iret F hG rfl (Eq.symm (if_pos ((nI_leI (by omega) (by omega)).mp h16))) rfl dX5_isFull_24
  · refine lv_iconst (v := 1) hx hb dX5_isFull_19 (by decide) ?_
    refine lv_goto (tgt := 24) hx hb dX5_isFull_20 (by decide) ?_
    exact gg_iret F hG rfl (Eq.symm (if_neg (fun z => h16 ((nI_leI (by omega) (by omega)).mpr z)))) rfl dX5_isFull_24
set_option maxRecDepth 100000 in
set_option maxHeartbeats 4000000 in
theorem c_X5_copyRow (Z : gZ) (l : Launch) (AD : Nat → Nat) (M : St) (n : Nat) (hn : 78 ≤ n) (c fr to : Nat) (hc : c < 2) (h1 : fr < 30) (h2 : to < 30) (hft : to ≤ fr) : gM Z l yX5_copyRow cX5_copyRow 4 none ({ frames := 1, cells := 0, slots := 0, locals := 24 } : Room) [.ref (AD (42 + (16 + c))), .int (nI fr), .int (nI to)] (wC Z AD M n) (none) (wC Z AD (cpR M (16 + c) fr to) n) 0 0 := by
  refine gM_of (by decide +kernel) (Nat.le_of_ble_eq_true rfl) ?_
  intro pP eE sS mI aA bB mE cC A F hname hG ls hl
  have hx := F.1
  have hb := F.2.1
  have hl : lv_has ls 4 [(0, .ref (AD (42 + (16 + c)))), (1, .int (nI fr)), (2, .int (nI to))] := hl
  refine lv_iconst (v := nI 0) hx hb dX5_copyRow_0 rfl ?_
  refine lv_istore_n (lv' := [(3, .int (nI 0)), (0, .ref (AD (42 + (16 + c)))), (1, .int (nI fr)), (2, .int (nI to))]) hx hb dX5_copyRow_1 rfl hl (by decide) rfl (fun ls hl => ?_)
  refine lv_iload_n hx hb dX5_copyRow_2 rfl (lv_at hl 0 rfl) ?_
  refine lv_aload_n hx hb dX5_copyRow_3 rfl (lv_at hl 1 rfl) ?_
  refine gg_get F hG (ci := 5) (v := .int (nI 3)) 0 gcX5 rfl (gC_tabl (show 16 + c < 18 by omega) hn) (by decide) w1_87 (congrArg (fun z => some (Value.int z)) (if_neg (by omega))) dX5_copyRow_4 ?_
  refine lv_icmp_ge (tgt := 28) hx hb dX5_copyRow_7 (by decide) (fun h7 => absurd h7 (by decide)) (fun h7 => ?_)
  refine lv_aload_n hx hb dX5_copyRow_10 rfl (lv_at hl 1 rfl) ?_
  refine lv_iload_n hx hb dX5_copyRow_11 rfl (lv_at hl 3 rfl) ?_
  refine lv_iload_n hx hb dX5_copyRow_12 rfl (lv_at hl 0 rfl) ?_
  refine lv_aload_n hx hb dX5_copyRow_13 rfl (lv_at hl 1 rfl) ?_
  refine lv_iload_n hx hb dX5_copyRow_14 rfl (lv_at hl 2 rfl) ?_
  refine lv_iload_n hx hb dX5_copyRow_15 rfl (lv_at hl 0 rfl) ?_
  refine gg_callV F hG (ci := 5) (As := [.int (nI fr), .int (nI 0)]) (rest := [.int (nI 0), .int (nI to), .ref (AD (42 + (16 + c)))]) (c_X5_at Z l AD M _ hn (16 + c) fr 0 3 90 (show 16 + c < 18 by omega) (if_neg (by omega)) (if_neg (by omega)) (by omega) (by omega)) kY_X5_at kV_X5_at (gC_tabl (show 16 + c < 18 by omega) hn) rfl rfl w1_202 rfl ⟨rfl, rfl⟩ ⟨(Nat.le_of_ble_eq_true rfl), (Nat.le_of_ble_eq_true rfl)⟩ rfl (Nat.le_of_ble_eq_true rfl) hl.1 ⟨Nat.zero_le _, Nat.zero_le _⟩ dX5_copyRow_16 rfl (fun H locs hG => ?_)
  refine gg_callV F hG (ci := 5) (As := [.int (nI to), .int (nI 0), .int (M 16 (16 + c) (fr * 3 + 0))]) (rest := []) (c_X5_put Z l AD M _ hn (16 + c) to 0 3 90 (show 16 + c < 18 by omega) (if_neg (by omega)) (if_neg (by omega)) (by omega) (by omega) (M 16 (16 + c) (fr * 3 + 0))) kY_X5_put kV_X5_put (gC_tabl (show 16 + c < 18 by omega) hn) rfl rfl w3_171 rfl ⟨rfl, rfl⟩ ⟨(Nat.le_of_ble_eq_true rfl), (Nat.le_of_ble_eq_true rfl)⟩ rfl (Nat.le_of_ble_eq_true rfl) hl.1 ⟨Nat.zero_le _, Nat.zero_le _⟩ dX5_copyRow_19 rfl (fun H locs hG => ?_)
  refine lv_iinc (v := nI 1) (lv' := [(3, .int (nI 1)), (0, .ref (AD (42 + (16 + c)))), (1, .int (nI fr)), (2, .int (nI to))]) hx hb dX5_copyRow_22 hl (k := 0) rfl (by decide) (by decide) rfl (fun ls hl => ?_)
  refine lv_goto (tgt := 2) hx hb dX5_copyRow_25 (by decide) ?_
  refine lv_iload_n hx hb dX5_copyRow_2 rfl (lv_at hl 0 rfl) ?_
  refine lv_aload_n hx hb dX5_copyRow_3 rfl (lv_at hl 1 rfl) ?_
  refine gg_get F hG (ci := 5) (v := .int (nI 3)) 0 gcX5 rfl (gC_tabl (show 16 + c < 18 by omega) hn) (by decide) w1_87 (congrArg (fun z => some (Value.int z)) (if_neg (by omega))) dX5_copyRow_4 ?_
  refine lv_icmp_ge (tgt := 28) hx hb dX5_copyRow_7 (by decide) (fun h7 => absurd h7 (by decide)) (fun h7 => ?_)
  refine lv_aload_n hx hb dX5_copyRow_10 rfl (lv_at hl 1 rfl) ?_
  refine lv_iload_n hx hb dX5_copyRow_11 rfl (lv_at hl 3 rfl) ?_
  refine lv_iload_n hx hb dX5_copyRow_12 rfl (lv_at hl 0 rfl) ?_
  refine lv_aload_n hx hb dX5_copyRow_13 rfl (lv_at hl 1 rfl) ?_
  refine lv_iload_n hx hb dX5_copyRow_14 rfl (lv_at hl 2 rfl) ?_
  refine lv_iload_n hx hb dX5_copyRow_15 rfl (lv_at hl 0 rfl) ?_
  refine gg_callV F hG (ci := 5) (As := [.int (nI fr), .int (nI 1)]) (rest := [.int (nI 1), .int (nI to), .ref (AD (42 + (16 + c)))]) (c_X5_at Z l AD (mu M 16 (16 + c) (to * 3 + 0) (M 16 (16 + c) (fr * 3 + 0))) _ hn (16 + c) fr 1 3 90 (show 16 + c < 18 by omega) (if_neg (by omega)) (if_neg (by omega)) (by omega) (by omega)) kY_X5_at kV_X5_at (gC_tabl (show 16 + c < 18 by omega) hn) rfl rfl w1_202 rfl ⟨rfl, rfl⟩ ⟨(Nat.le_of_ble_eq_true rfl), (Nat.le_of_ble_eq_true rfl)⟩ rfl (Nat.le_of_ble_eq_true rfl) hl.1 ⟨Nat.zero_le _, Nat.zero_le _⟩ dX5_copyRow_16 rfl (fun H locs hG => ?_)
  refine gg_callV F hG (ci := 5) (As := [.int (nI to), .int (nI 1), .int ((mu M 16 (16 + c) (to * 3 + 0) (M 16 (16 + c) (fr * 3 + 0))) 16 (16 + c) (fr * 3 + 1))]) (rest := []) (c_X5_put Z l AD (mu M 16 (16 + c) (to * 3 + 0) (M 16 (16 + c) (fr * 3 + 0))) _ hn (16 + c) to 1 3 90 (show 16 + c < 18 by omega) (if_neg (by omega)) (if_neg (by omega)) (by omega) (by omega) ((mu M 16 (16 + c) (to * 3 + 0) (M 16 (16 + c) (fr * 3 + 0))) 16 (16 + c) (fr * 3 + 1))) kY_X5_put kV_X5_put (gC_tabl (show 16 + c < 18 by omega) hn) rfl rfl w3_171 rfl ⟨rfl, rfl⟩ ⟨(Nat.le_of_ble_eq_true rfl), (Nat.le_of_ble_eq_true rfl)⟩ rfl (Nat.le_of_ble_eq_true rfl) hl.1 ⟨Nat.zero_le _, Nat.zero_le _⟩ dX5_copyRow_19 rfl (fun H locs hG => ?_)
  refine lv_iinc (v := nI 2) (lv' := [(3, .int (nI 2)), (0, .ref (AD (42 + (16 + c)))), (1, .int (nI fr)), (2, .int (nI to))]) hx hb dX5_copyRow_22 hl (k := 0) rfl (by decide) (by decide) rfl (fun ls hl => ?_)
  refine lv_goto (tgt := 2) hx hb dX5_copyRow_25 (by decide) ?_
  refine lv_iload_n hx hb dX5_copyRow_2 rfl (lv_at hl 0 rfl) ?_
  refine lv_aload_n hx hb dX5_copyRow_3 rfl (lv_at hl 1 rfl) ?_
  refine gg_get F hG (ci := 5) (v := .int (nI 3)) 0 gcX5 rfl (gC_tabl (show 16 + c < 18 by omega) hn) (by decide) w1_87 (congrArg (fun z => some (Value.int z)) (if_neg (by omega))) dX5_copyRow_4 ?_
  refine lv_icmp_ge (tgt := 28) hx hb dX5_copyRow_7 (by decide) (fun h7 => absurd h7 (by decide)) (fun h7 => ?_)
  refine lv_aload_n hx hb dX5_copyRow_10 rfl (lv_at hl 1 rfl) ?_
  refine lv_iload_n hx hb dX5_copyRow_11 rfl (lv_at hl 3 rfl) ?_
  refine lv_iload_n hx hb dX5_copyRow_12 rfl (lv_at hl 0 rfl) ?_
  refine lv_aload_n hx hb dX5_copyRow_13 rfl (lv_at hl 1 rfl) ?_
  refine lv_iload_n hx hb dX5_copyRow_14 rfl (lv_at hl 2 rfl) ?_
  refine lv_iload_n hx hb dX5_copyRow_15 rfl (lv_at hl 0 rfl) ?_
  refine gg_callV F hG (ci := 5) (As := [.int (nI fr), .int (nI 2)]) (rest := [.int (nI 2), .int (nI to), .ref (AD (42 + (16 + c)))]) (c_X5_at Z l AD (mu (mu M 16 (16 + c) (to * 3 + 0) (M 16 (16 + c) (fr * 3 + 0))) 16 (16 + c) (to * 3 + 1) ((mu M 16 (16 + c) (to * 3 + 0) (M 16 (16 + c) (fr * 3 + 0))) 16 (16 + c) (fr * 3 + 1))) _ hn (16 + c) fr 2 3 90 (show 16 + c < 18 by omega) (if_neg (by omega)) (if_neg (by omega)) (by omega) (by omega)) kY_X5_at kV_X5_at (gC_tabl (show 16 + c < 18 by omega) hn) rfl rfl w1_202 rfl ⟨rfl, rfl⟩ ⟨(Nat.le_of_ble_eq_true rfl), (Nat.le_of_ble_eq_true rfl)⟩ rfl (Nat.le_of_ble_eq_true rfl) hl.1 ⟨Nat.zero_le _, Nat.zero_le _⟩ dX5_copyRow_16 rfl (fun H locs hG => ?_)
  refine gg_callV F hG (ci := 5) (As := [.int (nI to), .int (nI 2), .int ((mu (mu M 16 (16 + c) (to * 3 + 0) (M 16 (16 + c) (fr * 3 + 0))) 16 (16 + c) (to * 3 + 1) ((mu M 16 (16 + c) (to * 3 + 0) (M 16 (16 + c) (fr * 3 + 0))) 16 (16 + c) (fr * 3 + 1))) 16 (16 + c) (fr * 3 + 2))]) (rest := []) (c_X5_put Z l AD (mu (mu M 16 (16 + c) (to * 3 + 0) (M 16 (16 + c) (fr * 3 + 0))) 16 (16 + c) (to * 3 + 1) ((mu M 16 (16 + c) (to * 3 + 0) (M 16 (16 + c) (fr * 3 + 0))) 16 (16 + c) (fr * 3 + 1))) _ hn (16 + c) to 2 3 90 (show 16 + c < 18 by omega) (if_neg (by omega)) (if_neg (by omega)) (by omega) (by omega) ((mu (mu M 16 (16 + c) (to * 3 + 0) (M 16 (16 + c) (fr * 3 + 0))) 16 (16 + c) (to * 3 + 1) ((mu M 16 (16 + c) (to * 3 + 0) (M 16 (16 + c) (fr * 3 + 0))) 16 (16 + c) (fr * 3 + 1))) 16 (16 + c) (fr * 3 + 2))) kY_X5_put kV_X5_put (gC_tabl (show 16 + c < 18 by omega) hn) rfl rfl w3_171 rfl ⟨rfl, rfl⟩ ⟨(Nat.le_of_ble_eq_true rfl), (Nat.le_of_ble_eq_true rfl)⟩ rfl (Nat.le_of_ble_eq_true rfl) hl.1 ⟨Nat.zero_le _, Nat.zero_le _⟩ dX5_copyRow_19 rfl (fun H locs hG => ?_)
  refine lv_iinc (v := nI 3) (lv' := [(3, .int (nI 3)), (0, .ref (AD (42 + (16 + c)))), (1, .int (nI fr)), (2, .int (nI to))]) hx hb dX5_copyRow_22 hl (k := 0) rfl (by decide) (by decide) rfl (fun ls hl => ?_)
  refine lv_goto (tgt := 2) hx hb dX5_copyRow_25 (by decide) ?_
  refine lv_iload_n hx hb dX5_copyRow_2 rfl (lv_at hl 0 rfl) ?_
  refine lv_aload_n hx hb dX5_copyRow_3 rfl (lv_at hl 1 rfl) ?_
  refine gg_get F hG (ci := 5) (v := .int (nI 3)) 0 gcX5 rfl (gC_tabl (show 16 + c < 18 by omega) hn) (by decide) w1_87 (congrArg (fun z => some (Value.int z)) (if_neg (by omega))) dX5_copyRow_4 ?_
  refine lv_icmp_ge (tgt := 28) hx hb dX5_copyRow_7 (by decide) (fun h7 => ?_) (fun h7 => absurd (by decide) h7)
  exact gg_vret F hG (congrArg (fun q => wC Z AD q n) (by unfold cpR; rw [mu_j (by omega), mu_j (by omega), mu_j (by omega)]; rfl)) dX5_copyRow_28
set_option maxRecDepth 100000 in
set_option maxHeartbeats 4000000 in
theorem c_X5_copyFrom (Z : gZ) (l : Launch) (AD : Nat → Nat) (M : St) (n : Nat) (hn : 78 ≤ n) (t u N : Nat) (ht : t < 18) (hu : u < 18) (htu : t ≠ u) (hN : (if t < 16 then 160 else 90) = N) (hNu : (if u < 16 then 160 else 90) = N) (hN2 : N ≤ 160) : gM Z l yX5_copyFrom cX5_copyFrom 3 none ({ frames := 0, cells := 0, slots := 0, locals := 0 } : Room) [.ref (AD (42 + t)), .ref (AD (42 + u))] (wC Z AD M n) (none) (wC Z AD (cpN (mu M 15 t 0 (M 15 u 0)) t u N) n) 0 0 := by
  refine gM_of (by decide +kernel) (Nat.le_of_ble_eq_true rfl) ?_
  intro pP eE sS mI aA bB mE cC A F hname hG ls hl
  have hx := F.1
  have hb := F.2.1
  have hl : lv_has ls 3 [(0, .ref (AD (42 + t))), (1, .ref (AD (42 + u)))] := hl
  refine lv_aload_n hx hb dX5_copyFrom_0 rfl (lv_at hl 0 rfl) ?_
  refine lv_aload_n hx hb dX5_copyFrom_1 rfl (lv_at hl 1 rfl) ?_
  refine gg_get F hG (ci := 5) (v := .int (M 15 u 0)) 2 gcX5 rfl (gC_tabl hu hn) (by decide) w1_90 rfl dX5_copyFrom_2 ?_
  refine gg_put F hG (ci := 5) 2 gcX5 rfl (gC_tabl ht hn) (by decide) w1_90 rfl rfl rfl (Nat.le_of_ble_eq_true rfl) (pC_15 ht) dX5_copyFrom_5 (fun H locs hG => ?_)
  have hG : gG Z A sS (wC Z AD (mu M 15 t 0 (M 15 u 0)) n) H locs := hG
  refine lv_iconst (v := nI 0) hx hb dX5_copyFrom_8 rfl ?_
  refine lv_istore_n (lv' := [(2, .int (nI 0)), (0, .ref (AD (42 + t))), (1, .ref (AD (42 + u)))]) hx hb dX5_copyFrom_9 rfl hl (by decide) rfl (fun ls hl => ?_)
  have loop10 : ∀ (q i : Nat), i ≤ N → N + 1 ≤ i + q → ∀ (H : Heap) (locs : List Loc), gG Z A sS (wC Z AD (cpN (mu M 15 t 0 (M 15 u 0)) t u i) n) H locs → ∀ ls : Array Slot, lv_has ls 3 [(0, .ref (AD (42 + t))), (1, .ref (AD (42 + u))), (2, .int (nI i))] → W pP l eE ({ frames := 0, cells := 0, slots := 0, locals := 0 } : Room) sS mI aA bB mE cC H locs 0 0 (MQ bB (gQ Z A (none) (wC Z AD (cpN (mu M 15 t 0 (M 15 u 0)) t u N) n)) aA sS 0 0 A) (F0 mI 10 ls []) := by
    intro q
    induction q with
    | zero =>
      intro i h1 h2
      exact absurd h2 (by omega)
    | succ q ih =>
      intro i hle hq H locs hG ls hl
      by_cases hlt : i < N
      · refine lv_iload_n hx hb dX5_copyFrom_10 rfl (lv_at hl 2 rfl) ?_
        refine lv_aload_n hx hb dX5_copyFrom_11 rfl (lv_at hl 0 rfl) ?_
        refine gg_get F hG (ci := 5) (v := .ref (AD (60 + t))) 1 gcX5 rfl (gC_tabl ht hn) (by decide) w1_89 rfl dX5_copyFrom_12 ?_
        refine gg_alen F hG (t0 := 0) (v := nI N) (gC_cell ht hn) rfl (congrArg Int32.ofNat hN) dX5_copyFrom_15 ?_
        refine lv_icmp_ge (tgt := 46) hx hb dX5_copyFrom_16 (by decide) (fun h16 => absurd h16 (nI_ge hlt (by omega))) (fun h16 => ?_)
        refine lv_iload_n hx hb dX5_copyFrom_19 rfl (lv_at hl 2 rfl) ?_
        refine lv_aload_n hx hb dX5_copyFrom_20 rfl (lv_at hl 1 rfl) ?_
        refine gg_get F hG (ci := 5) (v := .ref (AD (60 + u))) 1 gcX5 rfl (gC_tabl hu hn) (by decide) w1_89 rfl dX5_copyFrom_21 ?_
        refine gg_alen F hG (t0 := 0) (v := nI N) (gC_cell hu hn) rfl (congrArg Int32.ofNat hNu) dX5_copyFrom_24 ?_
        refine lv_icmp_ge (tgt := 46) hx hb dX5_copyFrom_25 (by decide) (fun h25 => absurd h25 (nI_ge hlt (by omega))) (fun h25 => ?_)
        refine lv_aload_n hx hb dX5_copyFrom_28 rfl (lv_at hl 0 rfl) ?_
        refine gg_get F hG (ci := 5) (v := .ref (AD (60 + t))) 1 gcX5 rfl (gC_tabl ht hn) (by decide) w1_89 rfl dX5_copyFrom_29 ?_
        refine lv_iload_n hx hb dX5_copyFrom_32 rfl (lv_at hl 2 rfl) ?_
        refine lv_aload_n hx hb dX5_copyFrom_33 rfl (lv_at hl 1 rfl) ?_
        refine gg_get F hG (ci := 5) (v := .ref (AD (60 + u))) 1 gcX5 rfl (gC_tabl hu hn) (by decide) w1_89 rfl dX5_copyFrom_34 ?_
        refine lv_iload_n hx hb dX5_copyFrom_37 rfl (lv_at hl 2 rfl) ?_
        refine gg_ialdN F hG i (gC_cell hu hn) rfl (by rw [hNu]; exact hlt) (by split <;> omega) dX5_copyFrom_38 ?_
        refine gg_iastN F hG i (gC_cell ht hn) rfl (by rw [hN]; exact hlt) (by split <;> omega) (pC_16 ht) dX5_copyFrom_39 (fun H locs hG => ?_)
        have hG : gG Z A sS (wC Z AD (mu (cpN (mu M 15 t 0 (M 15 u 0)) t u i) 16 t i ((cpN (mu M 15 t 0 (M 15 u 0)) t u i) 16 u i)) n) H locs := hG
        refine lv_iinc (v := nI (i + 1)) (lv' := [(2, .int (nI (i + 1))), (0, .ref (AD (42 + t))), (1, .ref (AD (42 + u)))]) hx hb dX5_copyFrom_40 hl (k := 2) rfl (nI_1 _) (by decide) rfl (fun ls hl => ?_)
        refine lv_goto (tgt := 10) hx hb dX5_copyFrom_43 (by decide) ?_
        exact ih (i + 1) (by omega) (by omega) _ _ (hG.to (congrArg (fun q => wC Z AD q n) (cpN_s htu))) ls (lv_sub hl [1, 2, 0] rfl)
      · have hN : N = i := by omega
        subst hN
        refine lv_iload_n hx hb dX5_copyFrom_10 rfl (lv_at hl 2 rfl) ?_
        refine lv_aload_n hx hb dX5_copyFrom_11 rfl (lv_at hl 0 rfl) ?_
        refine gg_get F hG (ci := 5) (v := .ref (AD (60 + t))) 1 gcX5 rfl (gC_tabl ht hn) (by decide) w1_89 rfl dX5_copyFrom_12 ?_
        refine gg_alen F hG (t0 := 0) (v := nI N) (gC_cell ht hn) rfl (congrArg Int32.ofNat hN) dX5_copyFrom_15 ?_
        refine lv_icmp_ge (tgt := 46) hx hb dX5_copyFrom_16 (by decide) (fun h16 => ?_) (fun h16 => absurd (nI_le (Nat.le_refl _) (by omega)) h16)
        exact gg_vret F hG rfl dX5_copyFrom_46
  exact loop10 (N + 1) 0 (Nat.zero_le _) (by omega) _ _ (hG.to (congrArg (fun q => wC Z AD q n) cpN_0.symm)) ls (lv_sub hl [1, 2, 0] rfl)
set_option maxRecDepth 100000 in
set_option maxHeartbeats 4000000 in
theorem c_X5_sum (Z : gZ) (l : Launch) (AD : Nat → Nat) (M : St) (n : Nat) (hn : 78 ≤ n) (t k s : Nat) (ht : t < 16) (hk : k < 4) (hs : M 15 t 0 = nI s) (hs2 : s ≤ 40) : gM Z l yX5_sum cX5_sum 4 (some .int) ({ frames := 1, cells := 0, slots := 0, locals := 23 } : Room) [.ref (AD (42 + t)), .int (nI k)] (wC Z AD M n) (some (.int (sumF M t k s))) (wC Z AD M n) 0 0 := by
  refine gM_of (by decide +kernel) (Nat.le_of_ble_eq_true rfl) ?_
  intro pP eE sS mI aA bB mE cC A F hname hG ls hl
  have hx := F.1
  have hb := F.2.1
  have hl : lv_has ls 4 [(0, .ref (AD (42 + t))), (1, .int (nI k))] := hl
  refine lv_iconst (v := 0) hx hb dX5_sum_0 (by decide) ?_
  refine lv_istore_n (lv' := [(2, .int 0), (0, .ref (AD (42 + t))), (1, .int (nI k))]) hx hb dX5_sum_1 rfl hl (by decide) rfl (fun ls hl => ?_)
  refine lv_iconst (v := nI 0) hx hb dX5_sum_2 rfl ?_
  refine lv_istore_n (lv' := [(3, .int (nI 0)), (2, .int 0), (0, .ref (AD (42 + t))), (1, .int (nI k))]) hx hb dX5_sum_3 rfl hl (by decide) rfl (fun ls hl => ?_)
  have loop4 : ∀ (q i : Nat), i ≤ s → s + 1 ≤ i + q → ∀ (H : Heap) (locs : List Loc), gG Z A sS (wC Z AD M n) H locs → ∀ ls : Array Slot, lv_has ls 4 [(0, .ref (AD (42 + t))), (1, .int (nI k)), (2, .int (sumF M t k i)), (3, .int (nI i))] → W pP l eE ({ frames := 1, cells := 0, slots := 0, locals := 23 } : Room) sS mI aA bB mE cC H locs 0 0 (MQ bB (gQ Z A (some (.int (sumF M t k s))) (wC Z AD M n)) aA sS 0 0 A) (F0 mI 4 ls []) := by
    intro q
    induction q with
    | zero =>
      intro i h1 h2
      exact absurd h2 (by omega)
    | succ q ih =>
      intro i hle hq H locs hG ls hl
      by_cases hlt : i < s
      · refine lv_iload_n hx hb dX5_sum_4 rfl (lv_at hl 3 rfl) ?_
        refine lv_aload_n hx hb dX5_sum_5 rfl (lv_at hl 0 rfl) ?_
        refine gg_get F hG (ci := 5) (v := .int (nI s)) 2 gcX5 rfl (gC_tabl (show t < 18 by omega) hn) (by decide) w1_90 (congrArg (fun z => some (Value.int z)) hs) dX5_sum_6 ?_
        refine lv_icmp_ge (tgt := 27) hx hb dX5_sum_9 (by decide) (fun h9 => absurd h9 (nI_ge hlt (by omega))) (fun h9 => ?_)
        refine lv_iload_n hx hb dX5_sum_12 rfl (lv_at hl 2 rfl) ?_
        refine lv_aload_n hx hb dX5_sum_13 rfl (lv_at hl 0 rfl) ?_
        refine lv_iload_n hx hb dX5_sum_14 rfl (lv_at hl 3 rfl) ?_
        refine lv_iload_n hx hb dX5_sum_15 rfl (lv_at hl 1 rfl) ?_
        refine gg_callV F hG (ci := 5) (As := [.int (nI i), .int (nI k)]) (rest := [.int (sumF M t k i)]) (c_X5_at Z l AD M _ hn t i k 4 160 (show t < 18 by omega) (if_pos (by omega)) (if_pos (by omega)) (by omega) (by omega)) kY_X5_at kV_X5_at (gC_tabl (show t < 18 by omega) hn) rfl rfl w1_202 rfl ⟨rfl, rfl⟩ ⟨(Nat.le_of_ble_eq_true rfl), (Nat.le_of_ble_eq_true rfl)⟩ rfl (Nat.le_of_ble_eq_true rfl) hl.1 ⟨Nat.zero_le _, Nat.zero_le _⟩ dX5_sum_16 rfl (fun H locs hG => ?_)
        refine lv_iadd hx hb dX5_sum_19 ?_
        refine lv_istore_n (lv' := [(2, .int ((sumF M t k i) + (M 16 t (i * 4 + k)))), (0, .ref (AD (42 + t))), (1, .int (nI k)), (3, .int (nI i))]) hx hb dX5_sum_20 rfl hl (by decide) rfl (fun ls hl => ?_)
        refine lv_iinc (v := nI (i + 1)) (lv' := [(3, .int (nI (i + 1))), (2, .int ((sumF M t k i) + (M 16 t (i * 4 + k)))), (0, .ref (AD (42 + t))), (1, .int (nI k))]) hx hb dX5_sum_21 hl (k := 3) rfl (nI_1 _) (by decide) rfl (fun ls hl => ?_)
        refine lv_goto (tgt := 4) hx hb dX5_sum_24 (by decide) ?_
        exact ih (i + 1) (by omega) (by omega) _ _ hG ls (lv_sub hl [2, 3, 1, 0] rfl)
      · have hN : s = i := by omega
        subst hN
        refine lv_iload_n hx hb dX5_sum_4 rfl (lv_at hl 3 rfl) ?_
        refine lv_aload_n hx hb dX5_sum_5 rfl (lv_at hl 0 rfl) ?_
        refine gg_get F hG (ci := 5) (v := .int (nI s)) 2 gcX5 rfl (gC_tabl (show t < 18 by omega) hn) (by decide) w1_90 (congrArg (fun z => some (Value.int z)) hs) dX5_sum_6 ?_
        refine lv_icmp_ge (tgt := 27) hx hb dX5_sum_9 (by decide) (fun h9 => ?_) (fun h9 => absurd (nI_le (Nat.le_refl _) (by omega)) h9)
        refine lv_iload_n hx hb dX5_sum_27 rfl (lv_at hl 2 rfl) ?_
        exact gg_iret F hG rfl rfl rfl dX5_sum_28
  exact loop4 (s + 1) 0 (Nat.zero_le _) (by omega) _ _ hG ls (lv_sub hl [2, 3, 1, 0] rfl)
end
section
/-! members -/
noncomputable def b2 (P : Prop) : Int32 := @ite Int32 P (Classical.propDecidable P) 1 0
theorem b2_t {P : Prop} (h : P) : b2 P = 1 := @if_pos _ (Classical.propDecidable P) h _ _ _
theorem b2_f {P : Prop} (h : ¬ P) : b2 P = 0 := @if_neg _ (Classical.propDecidable P) h _ _ _
theorem b2_0 {P : Prop} (h : b2 P = 0) : ¬ P := fun q => by rw [b2_t q] at h; exact absurd h (by decide)
theorem b2_n {P : Prop} (h : ¬ b2 P = 0) : P := Classical.byContradiction fun q => h (b2_f q)
theorem b2_c {P Q : Prop} (h : P ↔ Q) : b2 P = b2 Q := by rw [propext h]
theorem b2_bool {P : Prop} : narrow .boolean (.int (b2 P)) = .int (b2 P) := by
  rcases Classical.em P with h | h
  · rw [b2_t h]; rfl
  · rw [b2_f h]; rfl
theorem b01 {x : Int32} (h : x = 0 ∨ x = 1) : narrow .boolean (.int x) = .int x ∧ fits .boolean (.int x) = true := by
  rcases h with rfl | rfl <;> exact ⟨rfl, rfl⟩
/-- the cards, a bit each -/
def crdF (M : St) (j : Nat) : Nat → Int32
  | 0 => 0
  | i + 1 => if M 16 j (i * 4 + 3) = 1 then crdF M j i ||| (1 <<< (M 16 j (i * 4 + 1) &&& 31)) else crdF M j i
def hasP (M : St) (j : Nat) (st day : Int32) (s : Nat) : Prop := ∃ k, k < s ∧ M 16 j (k * 4 + 1) = st ∧ M 16 j (k * 4 + 0) / 24 = day
def adlF (M : St) (j L : Nat) (h st s : Int32) : St := mu (mu (mu (mu (mu M 16 j (L * 4 + 0) h) 16 j (L * 4 + 1) st) 16 j (L * 4 + 2) s) 16 j (L * 4 + 3) 0) 15 j 0 (nI (L + 1))
def takF (M : St) (j k : Nat) : St := if M 16 j (k * 4 + 2) < 8 then M else mu M 16 j (k * 4 + 3) 1
def weaF (M : St) (j : Nat) : St := if M 14 j 0 = 0 then M else if M 11 j 0 ≤ 0 then M else mu M 11 j 0 (M 11 j 0 - 1)
def begF (M : St) (j : Nat) (t a : Int32) : St := mu (mu (mu (mu (tuneF M j t 0) 10 j 0 a) 11 j 0 9) 14 j 0 1) 15 j 0 0
/-- set j takes set k's numbers -/
def cpS (M : St) (j k : Nat) : St := mu (mu (mu (mu (mu (mu M 8 j 0 (M 8 k 0)) 9 j 0 (M 9 k 0)) 10 j 0 (M 10 k 0)) 11 j 0 (M 11 k 0)) 12 j 0 (M 12 k 0)) 13 j 0 (M 13 k 0)
def cpM (M : St) (j k : Nat) : St := mu (cpN (mu (cpS M j k) 15 j 0 (M 15 k 0)) j k 160) 14 j 0 (M 14 k 0)
set_option maxRecDepth 100000 in
set_option maxHeartbeats 4000000 in
theorem c_X3_begin (Z : gZ) (l : Launch) (AD : Nat → Nat) (M : St) (n : Nat) (hn : 78 ≤ n) (j : Nat) (hj : j < 16) (t a : Int32) : gM Z l yX3_begin cX3_begin 3 none ({ frames := 2, cells := 0, slots := 0, locals := 46 } : Room) [.ref (AD (26 + j)), .int t, .int a] (wC Z AD M n) (none) (wC Z AD (begF M j t a) n) 0 0 := by
  refine gM_of (by decide +kernel) (Nat.le_of_ble_eq_true rfl) ?_
  intro pP eE sS mI aA bB mE cC A F hname hG ls hl
  have hx := F.1
  have hb := F.2.1
  have hl : lv_has ls 3 [(0, .ref (AD (26 + j))), (1, .int t), (2, .int a)] := hl
  refine lv_aload_n hx hb dX3_begin_0 rfl (lv_at hl 0 rfl) ?_
  refine gg_get F hG (ci := 3) (v := .ref (AD (9 + j))) 0 gcX3 rfl (gC_memb hj hn) (by decide) w1_102 rfl dX3_begin_1 ?_
  refine lv_iload_n hx hb dX3_begin_4 rfl (lv_at hl 1 rfl) ?_
  refine lv_iconst (v := 0) hx hb dX3_begin_5 (by decide) ?_
  refine gg_callV F hG (ci := 1) (As := [.int t, .int 0]) (rest := []) (c_X1_tune Z l AD M _ hn j (by omega) t 0) kY_X1_tune kV_X1_tune (gC_cset (by omega) hn) rfl rfl w2_189 rfl ⟨rfl, rfl⟩ ⟨(Nat.le_of_ble_eq_true rfl), (Nat.le_of_ble_eq_true rfl)⟩ rfl (Nat.le_of_ble_eq_true rfl) hl.1 ⟨Nat.zero_le _, Nat.zero_le _⟩ dX3_begin_6 rfl (fun H locs hG => ?_)
  refine lv_aload_n hx hb dX3_begin_9 rfl (lv_at hl 0 rfl) ?_
  refine gg_get F hG (ci := 3) (v := .ref (AD (9 + j))) 0 gcX3 rfl (gC_memb hj hn) (by decide) w1_102 rfl dX3_begin_10 ?_
  refine lv_iload_n hx hb dX3_begin_13 rfl (lv_at hl 2 rfl) ?_
  refine gg_putN F hG (ci := 1) 2 gcX1 rfl (gC_cset (by omega) hn) (by decide) wn_5 rfl rfl rfl (Nat.le_of_ble_eq_true rfl) (pC_10 (by omega)) dX3_begin_14 (fun H locs hG => ?_)
  have hG : gG Z A sS (wC Z AD (mu (tuneF M j t 0) 10 j 0 a) n) H locs := hG
  refine lv_aload_n hx hb dX3_begin_17 rfl (lv_at hl 0 rfl) ?_
  refine gg_get F hG (ci := 3) (v := .ref (AD (9 + j))) 0 gcX3 rfl (gC_memb hj hn) (by decide) w1_102 rfl dX3_begin_18 ?_
  refine lv_bipush (v := 9) hx hb dX3_begin_21 (by decide) ?_
  refine gg_putN F hG (ci := 1) 3 gcX1 rfl (gC_cset (by omega) hn) (by decide) wn_7 rfl rfl rfl (Nat.le_of_ble_eq_true rfl) (pC_11 (by omega)) dX3_begin_23 (fun H locs hG => ?_)
  have hG : gG Z A sS (wC Z AD (mu (mu (tuneF M j t 0) 10 j 0 a) 11 j 0 9) n) H locs := hG
  refine lv_aload_n hx hb dX3_begin_26 rfl (lv_at hl 0 rfl) ?_
  refine lv_iconst (v := 1) hx hb dX3_begin_27 (by decide) ?_
  refine gg_put F hG (ci := 3) 2 gcX3 rfl (gC_memb hj hn) (by decide) w1_108 rfl rfl rfl (Nat.le_of_ble_eq_true rfl) (pC_14 hj) dX3_begin_28 (fun H locs hG => ?_)
  have hG : gG Z A sS (wC Z AD (mu (mu (mu (tuneF M j t 0) 10 j 0 a) 11 j 0 9) 14 j 0 1) n) H locs := hG
  refine lv_aload_n hx hb dX3_begin_31 rfl (lv_at hl 0 rfl) ?_
  refine gg_get F hG (ci := 3) (v := .ref (AD (42 + j))) 1 gcX3 rfl (gC_memb hj hn) (by decide) w1_105 rfl dX3_begin_32 ?_
  refine lv_iconst (v := 0) hx hb dX3_begin_35 (by decide) ?_
  refine gg_putN F hG (ci := 5) 2 gcX5 rfl (gC_tabl (by omega) hn) (by decide) wn_13 rfl rfl rfl (Nat.le_of_ble_eq_true rfl) (pC_15 (by omega)) dX3_begin_36 (fun H locs hG => ?_)
  have hG : gG Z A sS (wC Z AD (mu (mu (mu (mu (tuneF M j t 0) 10 j 0 a) 11 j 0 9) 14 j 0 1) 15 j 0 0) n) H locs := hG
  exact gg_vret F hG rfl dX3_begin_39
set_option maxRecDepth 100000 in
set_option maxHeartbeats 4000000 in
theorem c_X3_copyFrom (Z : gZ) (l : Launch) (AD : Nat → Nat) (M : St) (n : Nat) (hn : 78 ≤ n) (j k : Nat) (hj : j < 16) (hk : k < 16) (hjk : j ≠ k) (h14 : M 14 k 0 = 0 ∨ M 14 k 0 = 1) : gM Z l yX3_copyFrom cX3_copyFrom 2 none ({ frames := 1, cells := 0, slots := 0, locals := 22 } : Room) [.ref (AD (26 + j)), .ref (AD (26 + k))] (wC Z AD M n) (none) (wC Z AD (cpM M j k) n) 0 0 := by
  refine gM_of (by decide +kernel) (Nat.le_of_ble_eq_true rfl) ?_
  intro pP eE sS mI aA bB mE cC A F hname hG ls hl
  have hx := F.1
  have hb := F.2.1
  have hl : lv_has ls 2 [(0, .ref (AD (26 + j))), (1, .ref (AD (26 + k)))] := hl
  refine lv_aload_n hx hb dX3_copyFrom_0 rfl (lv_at hl 0 rfl) ?_
  refine gg_get F hG (ci := 3) (v := .ref (AD (9 + j))) 0 gcX3 rfl (gC_memb hj hn) (by decide) w1_102 rfl dX3_copyFrom_1 ?_
  refine lv_aload_n hx hb dX3_copyFrom_4 rfl (lv_at hl 1 rfl) ?_
  refine gg_get F hG (ci := 3) (v := .ref (AD (9 + k))) 0 gcX3 rfl (gC_memb hk hn) (by decide) w1_102 rfl dX3_copyFrom_5 ?_
  refine gg_callV F hG (ci := 1) (As := [.ref (AD (9 + k))]) (rest := []) (c_X1_copyFrom Z l AD M _ hn j k (by omega) (by omega)) kY_X1_copyFrom kV_X1_copyFrom (gC_cset (by omega) hn) rfl rfl w4_20 rfl ⟨rfl, rfl⟩ ⟨(Nat.le_of_ble_eq_true rfl), (Nat.le_of_ble_eq_true rfl)⟩ rfl (Nat.le_of_ble_eq_true rfl) hl.1 ⟨Nat.zero_le _, Nat.zero_le _⟩ dX3_copyFrom_8 rfl (fun H locs hG => ?_)
  refine lv_aload_n hx hb dX3_copyFrom_11 rfl (lv_at hl 0 rfl) ?_
  refine gg_get F hG (ci := 3) (v := .ref (AD (42 + j))) 1 gcX3 rfl (gC_memb hj hn) (by decide) w1_105 rfl dX3_copyFrom_12 ?_
  refine lv_aload_n hx hb dX3_copyFrom_15 rfl (lv_at hl 1 rfl) ?_
  refine gg_get F hG (ci := 3) (v := .ref (AD (42 + k))) 1 gcX3 rfl (gC_memb hk hn) (by decide) w1_105 rfl dX3_copyFrom_16 ?_
  refine gg_callV F hG (ci := 5) (As := [.ref (AD (42 + k))]) (rest := []) (c_X5_copyFrom Z l AD (cpS M j k) _ hn j k 160 (by omega) (by omega) (by omega) (if_pos (by omega)) (if_pos (by omega)) (by omega)) kY_X5_copyFrom kV_X5_copyFrom (gC_tabl (by omega) hn) rfl rfl w4_21 rfl ⟨rfl, rfl⟩ ⟨(Nat.le_of_ble_eq_true rfl), (Nat.le_of_ble_eq_true rfl)⟩ rfl (Nat.le_of_ble_eq_true rfl) hl.1 ⟨Nat.zero_le _, Nat.zero_le _⟩ dX3_copyFrom_19 rfl (fun H locs hG => ?_)
  refine lv_aload_n hx hb dX3_copyFrom_22 rfl (lv_at hl 0 rfl) ?_
  refine lv_aload_n hx hb dX3_copyFrom_23 rfl (lv_at hl 1 rfl) ?_
  refine gg_get F hG (ci := 3) (v := .int ((cpN (mu (cpS M j k) 15 j 0 ((cpS M j k) 15 k 0)) j k 160) 14 k 0)) 2 gcX3 rfl (gC_memb hk hn) (by decide) w1_108 rfl dX3_copyFrom_24 ?_
  refine gg_put F hG (ci := 3) 2 gcX3 rfl (gC_memb hj hn) (by decide) w1_108 rfl (b01 h14).1 (b01 h14).2 (Nat.le_of_ble_eq_true rfl) (pC_14 hj) dX3_copyFrom_27 (fun H locs hG => ?_)
  have hG : gG Z A sS (wC Z AD (mu (cpN (mu (cpS M j k) 15 j 0 ((cpS M j k) 15 k 0)) j k 160) 14 j 0 ((cpN (mu (cpS M j k) 15 j 0 ((cpS M j k) 15 k 0)) j k 160) 14 k 0)) n) H locs := hG
  exact gg_vret F hG rfl dX3_copyFrom_30
set_option maxRecDepth 100000 in
set_option maxHeartbeats 4000000 in
theorem c_X3_hasLineOf (Z : gZ) (l : Launch) (AD : Nat → Nat) (M : St) (n : Nat) (hn : 78 ≤ n) (j s : Nat) (hj : j < 16) (hs : M 15 j 0 = nI s) (hs2 : s ≤ 40) (st day : Int32) : gM Z l yX3_hasLineOf cX3_hasLineOf 4 (some .boolean) ({ frames := 1, cells := 0, slots := 0, locals := 23 } : Room) [.ref (AD (26 + j)), .int st, .int day] (wC Z AD M n) (some (.int (b2 (hasP M j st day s)))) (wC Z AD M n) 0 0 := by
  refine gM_of (by decide +kernel) (Nat.le_of_ble_eq_true rfl) ?_
  intro pP eE sS mI aA bB mE cC A F hname hG ls hl
  have hx := F.1
  have hb := F.2.1
  have hl : lv_has ls 4 [(0, .ref (AD (26 + j))), (1, .int st), (2, .int day)] := hl
  refine lv_iconst (v := nI 0) hx hb dX3_hasLineOf_0 rfl ?_
  refine lv_istore_n (lv' := [(3, .int (nI 0)), (0, .ref (AD (26 + j))), (1, .int st), (2, .int day)]) hx hb dX3_hasLineOf_1 rfl hl (by decide) rfl (fun ls hl => ?_)
  have loop2 : ∀ (q i : Nat), i ≤ s → s + 1 ≤ i + q → (∀ k, k < i → ¬ (M 16 j (k * 4 + 1) = st ∧ M 16 j (k * 4 + 0) / 24 = day)) → ∀ (H : Heap) (locs : List Loc), gG Z A sS (wC Z AD M n) H locs → ∀ ls : Array Slot, lv_has ls 4 [(0, .ref (AD (26 + j))), (1, .int st), (2, .int day), (3, .int (nI i))] → W pP l eE ({ frames := 1, cells := 0, slots := 0, locals := 23 } : Room) sS mI aA bB mE cC H locs 0 0 (MQ bB (gQ Z A (some (.int (b2 (hasP M j st day s)))) (wC Z AD M n)) aA sS 0 0 A) (F0 mI 2 ls []) := by
    intro q
    induction q with
    | zero =>
      intro i h1 h2
      exact absurd h2 (by omega)
    | succ q ih =>
      intro i hle hq hno H locs hG ls hl
      by_cases hlt : i < s
      · refine lv_iload_n hx hb dX3_hasLineOf_2 rfl (lv_at hl 3 rfl) ?_
        refine lv_aload_n hx hb dX3_hasLineOf_3 rfl (lv_at hl 0 rfl) ?_
        refine gg_get F hG (ci := 3) (v := .ref (AD (42 + j))) 1 gcX3 rfl (gC_memb hj hn) (by decide) w1_105 rfl dX3_hasLineOf_4 ?_
        refine gg_getN F hG (ci := 5) (v := .int (nI s)) 2 gcX5 rfl (gC_tabl (by omega) hn) (by decide) wn_13 (congrArg (fun z => some (Value.int z)) hs) dX3_hasLineOf_7 ?_
        refine lv_icmp_ge (tgt := 50) hx hb dX3_hasLineOf_10 (by decide) (fun h10 => absurd h10 (nI_ge hlt (by omega))) (fun h10 => ?_)
        refine lv_aload_n hx hb dX3_hasLineOf_13 rfl (lv_at hl 0 rfl) ?_
        refine gg_get F hG (ci := 3) (v := .ref (AD (42 + j))) 1 gcX3 rfl (gC_memb hj hn) (by decide) w1_105 rfl dX3_hasLineOf_14 ?_
        refine lv_iload_n hx hb dX3_hasLineOf_17 rfl (lv_at hl 3 rfl) ?_
        refine lv_iconst (v := 1) hx hb dX3_hasLineOf_18 (by decide) ?_
        refine gg_callV F hG (ci := 5) (As := [.int (nI i), .int 1]) (rest := []) (c_X5_at Z l AD M _ hn j i 1 4 160 (by omega) (if_pos (by omega)) (if_pos (by omega)) (by omega) (by omega)) kY_X5_at kV_X5_at (gC_tabl (by omega) hn) rfl rfl w2_17 rfl ⟨rfl, rfl⟩ ⟨(Nat.le_of_ble_eq_true rfl), (Nat.le_of_ble_eq_true rfl)⟩ rfl (Nat.le_of_ble_eq_true rfl) hl.1 ⟨Nat.zero_le _, Nat.zero_le _⟩ dX3_hasLineOf_19 rfl (fun H locs hG => ?_)
        refine lv_iload_n hx hb dX3_hasLineOf_22 rfl (lv_at hl 1 rfl) ?_
        refine lv_icmp_ne (tgt := 44) hx hb dX3_hasLineOf_23 (by decide) (fun h23 => ?_) (fun h23 => ?_)
        · refine lv_iinc (v := nI (i + 1)) (lv' := [(3, .int (nI (i + 1))), (0, .ref (AD (26 + j))), (1, .int st), (2, .int day)]) hx hb dX3_hasLineOf_44 hl (k := 3) rfl (nI_1 _) (by decide) rfl (fun ls hl => ?_)
          refine lv_goto (tgt := 2) hx hb dX3_hasLineOf_47 (by decide) ?_
          exact ih (i + 1) (by omega) (by omega) (lt_s hno (fun z => h23 z.1)) _ _ hG ls (lv_sub hl [1, 2, 3, 0] rfl)
        · refine lv_aload_n hx hb dX3_hasLineOf_26 rfl (lv_at hl 0 rfl) ?_
          refine gg_get F hG (ci := 3) (v := .ref (AD (42 + j))) 1 gcX3 rfl (gC_memb hj hn) (by decide) w1_105 rfl dX3_hasLineOf_27 ?_
          refine lv_iload_n hx hb dX3_hasLineOf_30 rfl (lv_at hl 3 rfl) ?_
          refine lv_iconst (v := 0) hx hb dX3_hasLineOf_31 (by decide) ?_
          refine gg_callV F hG (ci := 5) (As := [.int (nI i), .int 0]) (rest := []) (c_X5_at Z l AD M _ hn j i 0 4 160 (by omega) (if_pos (by omega)) (if_pos (by omega)) (by omega) (by omega)) kY_X5_at kV_X5_at (gC_tabl (by omega) hn) rfl rfl w2_17 rfl ⟨rfl, rfl⟩ ⟨(Nat.le_of_ble_eq_true rfl), (Nat.le_of_ble_eq_true rfl)⟩ rfl (Nat.le_of_ble_eq_true rfl) hl.1 ⟨Nat.zero_le _, Nat.zero_le _⟩ dX3_hasLineOf_32 rfl (fun H locs hG => ?_)
          refine lv_bipush (v := 24) hx hb dX3_hasLineOf_35 (by decide) ?_
          refine lv_idiv hx hb dX3_hasLineOf_37 (by decide) ?_
          refine lv_iload_n hx hb dX3_hasLineOf_38 rfl (lv_at hl 2 rfl) ?_
          refine lv_icmp_ne (tgt := 44) hx hb dX3_hasLineOf_39 (by decide) (fun h39 => ?_) (fun h39 => ?_)
          · refine lv_iinc (v := nI (i + 1)) (lv' := [(3, .int (nI (i + 1))), (0, .ref (AD (26 + j))), (1, .int st), (2, .int day)]) hx hb dX3_hasLineOf_44 hl (k := 3) rfl (nI_1 _) (by decide) rfl (fun ls hl => ?_)
            refine lv_goto (tgt := 2) hx hb dX3_hasLineOf_47 (by decide) ?_
            exact ih (i + 1) (by omega) (by omega) (lt_s hno (fun z => h39 z.2)) _ _ hG ls (lv_sub hl [1, 2, 3, 0] rfl)
          · refine lv_iconst (v := 1) hx hb dX3_hasLineOf_42 (by decide) ?_
            exact gg_iret F hG rfl ((b2_t ⟨i, hlt, h23, h39⟩).symm) rfl dX3_hasLineOf_43
      · have hN : s = i := by omega
        subst hN
        refine lv_iload_n hx hb dX3_hasLineOf_2 rfl (lv_at hl 3 rfl) ?_
        refine lv_aload_n hx hb dX3_hasLineOf_3 rfl (lv_at hl 0 rfl) ?_
        refine gg_get F hG (ci := 3) (v := .ref (AD (42 + j))) 1 gcX3 rfl (gC_memb hj hn) (by decide) w1_105 rfl dX3_hasLineOf_4 ?_
        refine gg_getN F hG (ci := 5) (v := .int (nI s)) 2 gcX5 rfl (gC_tabl (by omega) hn) (by decide) wn_13 (congrArg (fun z => some (Value.int z)) hs) dX3_hasLineOf_7 ?_
        refine lv_icmp_ge (tgt := 50) hx hb dX3_hasLineOf_10 (by decide) (fun h10 => ?_) (fun h10 => absurd (nI_le (Nat.le_refl _) (by omega)) h10)
        refine lv_iconst (v := 0) hx hb dX3_hasLineOf_50 (by decide) ?_
        exact gg_iret F hG rfl ((b2_f (fun ⟨k, hk, z1, z2⟩ => hno k hk ⟨z1, z2⟩)).symm) rfl dX3_hasLineOf_51
  exact loop2 (s + 1) 0 (Nat.zero_le _) (by omega) lt_0 _ _ hG ls (lv_sub hl [1, 2, 3, 0] rfl)
set_option maxRecDepth 100000 in
set_option maxHeartbeats 4000000 in
theorem c_X3_cards (Z : gZ) (l : Launch) (AD : Nat → Nat) (M : St) (n : Nat) (hn : 78 ≤ n) (j s : Nat) (hj : j < 16) (hs : M 15 j 0 = nI s) (hs2 : s ≤ 40) : gM Z l yX3_cards cX3_cards 3 (some .int) ({ frames := 1, cells := 0, slots := 0, locals := 23 } : Room) [.ref (AD (26 + j))] (wC Z AD M n) (some (.int (crdF M j s))) (wC Z AD M n) 0 0 := by
  refine gM_of (by decide +kernel) (Nat.le_of_ble_eq_true rfl) ?_
  intro pP eE sS mI aA bB mE cC A F hname hG ls hl
  have hx := F.1
  have hb := F.2.1
  have hl : lv_has ls 3 [(0, .ref (AD (26 + j)))] := hl
  refine lv_iconst (v := 0) hx hb dX3_cards_0 (by decide) ?_
  refine lv_istore_n (lv' := [(1, .int 0), (0, .ref (AD (26 + j)))]) hx hb dX3_cards_1 rfl hl (by decide) rfl (fun ls hl => ?_)
  refine lv_iconst (v := nI 0) hx hb dX3_cards_2 rfl ?_
  refine lv_istore_n (lv' := [(2, .int (nI 0)), (1, .int 0), (0, .ref (AD (26 + j)))]) hx hb dX3_cards_3 rfl hl (by decide) rfl (fun ls hl => ?_)
  have loop4 : ∀ (q i : Nat), i ≤ s → s + 1 ≤ i + q → ∀ (H : Heap) (locs : List Loc), gG Z A sS (wC Z AD M n) H locs → ∀ ls : Array Slot, lv_has ls 3 [(0, .ref (AD (26 + j))), (1, .int (crdF M j i)), (2, .int (nI i))] → W pP l eE ({ frames := 1, cells := 0, slots := 0, locals := 23 } : Room) sS mI aA bB mE cC H locs 0 0 (MQ bB (gQ Z A (some (.int (crdF M j s))) (wC Z AD M n)) aA sS 0 0 A) (F0 mI 4 ls []) := by
    intro q
    induction q with
    | zero =>
      intro i h1 h2
      exact absurd h2 (by omega)
    | succ q ih =>
      intro i hle hq H locs hG ls hl
      by_cases hlt : i < s
      · refine lv_iload_n hx hb dX3_cards_4 rfl (lv_at hl 2 rfl) ?_
        refine lv_aload_n hx hb dX3_cards_5 rfl (lv_at hl 0 rfl) ?_
        refine gg_get F hG (ci := 3) (v := .ref (AD (42 + j))) 1 gcX3 rfl (gC_memb hj hn) (by decide) w1_105 rfl dX3_cards_6 ?_
        refine gg_getN F hG (ci := 5) (v := .int (nI s)) 2 gcX5 rfl (gC_tabl (by omega) hn) (by decide) wn_13 (congrArg (fun z => some (Value.int z)) hs) dX3_cards_9 ?_
        refine lv_icmp_ge (tgt := 48) hx hb dX3_cards_12 (by decide) (fun h12 => absurd h12 (nI_ge hlt (by omega))) (fun h12 => ?_)
        refine lv_aload_n hx hb dX3_cards_15 rfl (lv_at hl 0 rfl) ?_
        refine gg_get F hG (ci := 3) (v := .ref (AD (42 + j))) 1 gcX3 rfl (gC_memb hj hn) (by decide) w1_105 rfl dX3_cards_16 ?_
        refine lv_iload_n hx hb dX3_cards_19 rfl (lv_at hl 2 rfl) ?_
        refine lv_iconst (v := 3) hx hb dX3_cards_20 (by decide) ?_
        refine gg_callV F hG (ci := 5) (As := [.int (nI i), .int 3]) (rest := []) (c_X5_at Z l AD M _ hn j i 3 4 160 (by omega) (if_pos (by omega)) (if_pos (by omega)) (by omega) (by omega)) kY_X5_at kV_X5_at (gC_tabl (by omega) hn) rfl rfl w2_17 rfl ⟨rfl, rfl⟩ ⟨(Nat.le_of_ble_eq_true rfl), (Nat.le_of_ble_eq_true rfl)⟩ rfl (Nat.le_of_ble_eq_true rfl) hl.1 ⟨Nat.zero_le _, Nat.zero_le _⟩ dX3_cards_21 rfl (fun H locs hG => ?_)
        refine lv_iconst (v := 1) hx hb dX3_cards_24 (by decide) ?_
        refine lv_icmp_ne (tgt := 42) hx hb dX3_cards_25 (by decide) (fun h25 => ?_) (fun h25 => ?_)
        · refine lv_iinc (v := nI (i + 1)) (lv' := [(2, .int (nI (i + 1))), (0, .ref (AD (26 + j))), (1, .int (crdF M j i))]) hx hb dX3_cards_42 hl (k := 2) rfl (nI_1 _) (by decide) rfl (fun ls hl => ?_)
          refine lv_goto (tgt := 4) hx hb dX3_cards_45 (by decide) ?_
          rw [show crdF M j i = crdF M j (i + 1) from (if_neg h25).symm] at hl
          exact ih (i + 1) (by omega) (by omega) _ _ hG ls (lv_sub hl [1, 2, 0] rfl)
        · refine lv_iload_n hx hb dX3_cards_28 rfl (lv_at hl 1 rfl) ?_
          refine lv_iconst (v := 1) hx hb dX3_cards_29 (by decide) ?_
          refine lv_aload_n hx hb dX3_cards_30 rfl (lv_at hl 0 rfl) ?_
          refine gg_get F hG (ci := 3) (v := .ref (AD (42 + j))) 1 gcX3 rfl (gC_memb hj hn) (by decide) w1_105 rfl dX3_cards_31 ?_
          refine lv_iload_n hx hb dX3_cards_34 rfl (lv_at hl 2 rfl) ?_
          refine lv_iconst (v := 1) hx hb dX3_cards_35 (by decide) ?_
          refine gg_callV F hG (ci := 5) (As := [.int (nI i), .int 1]) (rest := [.int 1, .int (crdF M j i)]) (c_X5_at Z l AD M _ hn j i 1 4 160 (by omega) (if_pos (by omega)) (if_pos (by omega)) (by omega) (by omega)) kY_X5_at kV_X5_at (gC_tabl (by omega) hn) rfl rfl w2_17 rfl ⟨rfl, rfl⟩ ⟨(Nat.le_of_ble_eq_true rfl), (Nat.le_of_ble_eq_true rfl)⟩ rfl (Nat.le_of_ble_eq_true rfl) hl.1 ⟨Nat.zero_le _, Nat.zero_le _⟩ dX3_cards_36 rfl (fun H locs hG => ?_)
          refine lv_ishl hx hb dX3_cards_39 ?_
          refine lv_ior hx hb dX3_cards_40 ?_
          refine lv_istore_n (lv' := [(1, .int ((crdF M j i) ||| (1 <<< ((M 16 j (i * 4 + 1)) &&& 31)))), (0, .ref (AD (26 + j))), (2, .int (nI i))]) hx hb dX3_cards_41 rfl hl (by decide) rfl (fun ls hl => ?_)
          refine lv_iinc (v := nI (i + 1)) (lv' := [(2, .int (nI (i + 1))), (1, .int ((crdF M j i) ||| (1 <<< ((M 16 j (i * 4 + 1)) &&& 31)))), (0, .ref (AD (26 + j)))]) hx hb dX3_cards_42 hl (k := 2) rfl (nI_1 _) (by decide) rfl (fun ls hl => ?_)
          refine lv_goto (tgt := 4) hx hb dX3_cards_45 (by decide) ?_
          rw [show (crdF M j i ||| (1 <<< (M 16 j (i * 4 + 1) &&& 31)) : Int32) = crdF M j (i + 1) from (if_pos h25).symm] at hl
          exact ih (i + 1) (by omega) (by omega) _ _ hG ls (lv_sub hl [2, 1, 0] rfl)
      · have hN : s = i := by omega
        subst hN
        refine lv_iload_n hx hb dX3_cards_4 rfl (lv_at hl 2 rfl) ?_
        refine lv_aload_n hx hb dX3_cards_5 rfl (lv_at hl 0 rfl) ?_
        refine gg_get F hG (ci := 3) (v := .ref (AD (42 + j))) 1 gcX3 rfl (gC_memb hj hn) (by decide) w1_105 rfl dX3_cards_6 ?_
        refine gg_getN F hG (ci := 5) (v := .int (nI s)) 2 gcX5 rfl (gC_tabl (by omega) hn) (by decide) wn_13 (congrArg (fun z => some (Value.int z)) hs) dX3_cards_9 ?_
        refine lv_icmp_ge (tgt := 48) hx hb dX3_cards_12 (by decide) (fun h12 => ?_) (fun h12 => absurd (nI_le (Nat.le_refl _) (by omega)) h12)
        refine lv_iload_n hx hb dX3_cards_48 rfl (lv_at hl 1 rfl) ?_
        exact gg_iret F hG rfl rfl rfl dX3_cards_49
  exact loop4 (s + 1) 0 (Nat.zero_le _) (by omega) _ _ hG ls (lv_sub hl [2, 1, 0] rfl)
set_option maxRecDepth 100000 in
set_option maxHeartbeats 4000000 in
theorem c_X3_addLine (Z : gZ) (l : Launch) (AD : Nat → Nat) (M : St) (n : Nat) (hn : 78 ≤ n) (j s : Nat) (hj : j < 16) (hs : M 15 j 0 = nI s) (hs2 : s < 40) (h st x : Int32) : gM Z l yX3_addLine cX3_addLine 5 none ({ frames := 1, cells := 0, slots := 0, locals := 24 } : Room) [.ref (AD (26 + j)), .int h, .int st, .int x] (wC Z AD M n) (none) (wC Z AD (adlF M j s h st x) n) 0 0 := by
  refine gM_of (by decide +kernel) (Nat.le_of_ble_eq_true rfl) ?_
  intro pP eE sS mI aA bB mE cC A F hname hG ls hl
  have hx := F.1
  have hb := F.2.1
  have hl : lv_has ls 5 [(0, .ref (AD (26 + j))), (1, .int h), (2, .int st), (3, .int x)] := hl
  refine lv_aload_n hx hb dX3_addLine_0 rfl (lv_at hl 0 rfl) ?_
  refine gg_get F hG (ci := 3) (v := .ref (AD (42 + j))) 1 gcX3 rfl (gC_memb hj hn) (by decide) w1_105 rfl dX3_addLine_1 ?_
  refine gg_getN F hG (ci := 5) (v := .int (nI s)) 2 gcX5 rfl (gC_tabl (by omega) hn) (by decide) wn_13 (congrArg (fun z => some (Value.int z)) hs) dX3_addLine_4 ?_
  refine lv_istore (lv' := [(4, .int (nI s)), (0, .ref (AD (26 + j))), (1, .int h), (2, .int st), (3, .int x)]) hx hb dX3_addLine_7 hl (by decide) rfl (fun ls hl => ?_)
  refine lv_aload_n hx hb dX3_addLine_9 rfl (lv_at hl 1 rfl) ?_
  refine gg_get F hG (ci := 3) (v := .ref (AD (42 + j))) 1 gcX3 rfl (gC_memb hj hn) (by decide) w1_105 rfl dX3_addLine_10 ?_
  refine lv_iload hx hb dX3_addLine_13 (lv_at hl 0 rfl) ?_
  refine lv_iconst (v := 0) hx hb dX3_addLine_15 (by decide) ?_
  refine lv_iload_n hx hb dX3_addLine_16 rfl (lv_at hl 2 rfl) ?_
  refine gg_callV F hG (ci := 5) (As := [.int (nI s), .int 0, .int h]) (rest := []) (c_X5_put Z l AD M _ hn j s 0 4 160 (by omega) (if_pos (by omega)) (if_pos (by omega)) (by omega) (by omega) h) kY_X5_put kV_X5_put (gC_tabl (by omega) hn) rfl rfl w3_154 rfl ⟨rfl, rfl⟩ ⟨(Nat.le_of_ble_eq_true rfl), (Nat.le_of_ble_eq_true rfl)⟩ rfl (Nat.le_of_ble_eq_true rfl) hl.1 ⟨Nat.zero_le _, Nat.zero_le _⟩ dX3_addLine_17 rfl (fun H locs hG => ?_)
  refine lv_aload_n hx hb dX3_addLine_20 rfl (lv_at hl 1 rfl) ?_
  refine gg_get F hG (ci := 3) (v := .ref (AD (42 + j))) 1 gcX3 rfl (gC_memb hj hn) (by decide) w1_105 rfl dX3_addLine_21 ?_
  refine lv_iload hx hb dX3_addLine_24 (lv_at hl 0 rfl) ?_
  refine lv_iconst (v := 1) hx hb dX3_addLine_26 (by decide) ?_
  refine lv_iload_n hx hb dX3_addLine_27 rfl (lv_at hl 3 rfl) ?_
  refine gg_callV F hG (ci := 5) (As := [.int (nI s), .int 1, .int st]) (rest := []) (c_X5_put Z l AD (mu M 16 j (s * 4 + 0) h) _ hn j s 1 4 160 (by omega) (if_pos (by omega)) (if_pos (by omega)) (by omega) (by omega) st) kY_X5_put kV_X5_put (gC_tabl (by omega) hn) rfl rfl w3_154 rfl ⟨rfl, rfl⟩ ⟨(Nat.le_of_ble_eq_true rfl), (Nat.le_of_ble_eq_true rfl)⟩ rfl (Nat.le_of_ble_eq_true rfl) hl.1 ⟨Nat.zero_le _, Nat.zero_le _⟩ dX3_addLine_28 rfl (fun H locs hG => ?_)
  refine lv_aload_n hx hb dX3_addLine_31 rfl (lv_at hl 1 rfl) ?_
  refine gg_get F hG (ci := 3) (v := .ref (AD (42 + j))) 1 gcX3 rfl (gC_memb hj hn) (by decide) w1_105 rfl dX3_addLine_32 ?_
  refine lv_iload hx hb dX3_addLine_35 (lv_at hl 0 rfl) ?_
  refine lv_iconst (v := 2) hx hb dX3_addLine_37 (by decide) ?_
  refine lv_iload_n hx hb dX3_addLine_38 rfl (lv_at hl 4 rfl) ?_
  refine gg_callV F hG (ci := 5) (As := [.int (nI s), .int 2, .int x]) (rest := []) (c_X5_put Z l AD (mu (mu M 16 j (s * 4 + 0) h) 16 j (s * 4 + 1) st) _ hn j s 2 4 160 (by omega) (if_pos (by omega)) (if_pos (by omega)) (by omega) (by omega) x) kY_X5_put kV_X5_put (gC_tabl (by omega) hn) rfl rfl w3_154 rfl ⟨rfl, rfl⟩ ⟨(Nat.le_of_ble_eq_true rfl), (Nat.le_of_ble_eq_true rfl)⟩ rfl (Nat.le_of_ble_eq_true rfl) hl.1 ⟨Nat.zero_le _, Nat.zero_le _⟩ dX3_addLine_39 rfl (fun H locs hG => ?_)
  refine lv_aload_n hx hb dX3_addLine_42 rfl (lv_at hl 1 rfl) ?_
  refine gg_get F hG (ci := 3) (v := .ref (AD (42 + j))) 1 gcX3 rfl (gC_memb hj hn) (by decide) w1_105 rfl dX3_addLine_43 ?_
  refine lv_iload hx hb dX3_addLine_46 (lv_at hl 0 rfl) ?_
  refine lv_iconst (v := 3) hx hb dX3_addLine_48 (by decide) ?_
  refine lv_iconst (v := 0) hx hb dX3_addLine_49 (by decide) ?_
  refine gg_callV F hG (ci := 5) (As := [.int (nI s), .int 3, .int 0]) (rest := []) (c_X5_put Z l AD (mu (mu (mu M 16 j (s * 4 + 0) h) 16 j (s * 4 + 1) st) 16 j (s * 4 + 2) x) _ hn j s 3 4 160 (by omega) (if_pos (by omega)) (if_pos (by omega)) (by omega) (by omega) 0) kY_X5_put kV_X5_put (gC_tabl (by omega) hn) rfl rfl w3_154 rfl ⟨rfl, rfl⟩ ⟨(Nat.le_of_ble_eq_true rfl), (Nat.le_of_ble_eq_true rfl)⟩ rfl (Nat.le_of_ble_eq_true rfl) hl.1 ⟨Nat.zero_le _, Nat.zero_le _⟩ dX3_addLine_50 rfl (fun H locs hG => ?_)
  refine lv_aload_n hx hb dX3_addLine_53 rfl (lv_at hl 1 rfl) ?_
  refine gg_get F hG (ci := 3) (v := .ref (AD (42 + j))) 1 gcX3 rfl (gC_memb hj hn) (by decide) w1_105 rfl dX3_addLine_54 ?_
  refine lv_dup hx hb dX3_addLine_57 rfl ?_
  refine gg_getN F hG (ci := 5) (v := .int (nI s)) 2 gcX5 rfl (gC_tabl (by omega) hn) (by decide) wn_13 (congrArg (fun z => some (Value.int z)) hs) dX3_addLine_58 ?_
  refine lv_iconst (v := 1) hx hb dX3_addLine_61 (by decide) ?_
  refine lv_iadd hx hb dX3_addLine_62 ?_
  rw [show ((nI s) + 1 : Int32) = nI (s + 1) from nI_1 _]
  refine gg_putN F hG (ci := 5) 2 gcX5 rfl (gC_tabl (by omega) hn) (by decide) wn_13 rfl rfl rfl (Nat.le_of_ble_eq_true rfl) (pC_15 (by omega)) dX3_addLine_63 (fun H locs hG => ?_)
  have hG : gG Z A sS (wC Z AD (mu (mu (mu (mu (mu M 16 j (s * 4 + 0) h) 16 j (s * 4 + 1) st) 16 j (s * 4 + 2) x) 16 j (s * 4 + 3) 0) 15 j 0 (nI (s + 1))) n) H locs := hG
  exact gg_vret F hG rfl dX3_addLine_66
set_option maxRecDepth 100000 in
set_option maxHeartbeats 4000000 in
theorem c_X3_takeAnswer (Z : gZ) (l : Launch) (AD : Nat → Nat) (M : St) (n : Nat) (hn : 78 ≤ n) (j k : Nat) (hj : j < 16) (hk : k < 40) : gM Z l yX3_takeAnswer cX3_takeAnswer 2 none ({ frames := 1, cells := 0, slots := 0, locals := 24 } : Room) [.ref (AD (26 + j)), .int (nI k)] (wC Z AD M n) (none) (wC Z AD (takF M j k) n) 0 0 := by
  refine gM_of (by decide +kernel) (Nat.le_of_ble_eq_true rfl) ?_
  intro pP eE sS mI aA bB mE cC A F hname hG ls hl
  have hx := F.1
  have hb := F.2.1
  have hl : lv_has ls 2 [(0, .ref (AD (26 + j))), (1, .int (nI k))] := hl
  refine lv_aload_n hx hb dX3_takeAnswer_0 rfl (lv_at hl 0 rfl) ?_
  refine gg_get F hG (ci := 3) (v := .ref (AD (42 + j))) 1 gcX3 rfl (gC_memb hj hn) (by decide) w1_105 rfl dX3_takeAnswer_1 ?_
  refine lv_iload_n hx hb dX3_takeAnswer_4 rfl (lv_at hl 1 rfl) ?_
  refine lv_iconst (v := 2) hx hb dX3_takeAnswer_5 (by decide) ?_
  refine gg_callV F hG (ci := 5) (As := [.int (nI k), .int 2]) (rest := []) (c_X5_at Z l AD M _ hn j k 2 4 160 (by omega) (if_pos (by omega)) (if_pos (by omega)) (by omega) (by omega)) kY_X5_at kV_X5_at (gC_tabl (by omega) hn) rfl rfl w2_17 rfl ⟨rfl, rfl⟩ ⟨(Nat.le_of_ble_eq_true rfl), (Nat.le_of_ble_eq_true rfl)⟩ rfl (Nat.le_of_ble_eq_true rfl) hl.1 ⟨Nat.zero_le _, Nat.zero_le _⟩ dX3_takeAnswer_6 rfl (fun H locs hG => ?_)
  refine lv_bipush (v := 8) hx hb dX3_takeAnswer_9 (by decide) ?_
  refine lv_icmp_lt (tgt := 24) hx hb dX3_takeAnswer_11 (by decide) (fun h11 => ?_) (fun h11 => ?_)
  · exact gg_vret F hG (congrArg (fun q => wC Z AD q n) (Eq.symm (if_pos h11))) dX3_takeAnswer_24
  · refine lv_aload_n hx hb dX3_takeAnswer_14 rfl (lv_at hl 0 rfl) ?_
    refine gg_get F hG (ci := 3) (v := .ref (AD (42 + j))) 1 gcX3 rfl (gC_memb hj hn) (by decide) w1_105 rfl dX3_takeAnswer_15 ?_
    refine lv_iload_n hx hb dX3_takeAnswer_18 rfl (lv_at hl 1 rfl) ?_
    refine lv_iconst (v := 3) hx hb dX3_takeAnswer_19 (by decide) ?_
    refine lv_iconst (v := 1) hx hb dX3_takeAnswer_20 (by decide) ?_
    refine gg_callV F hG (ci := 5) (As := [.int (nI k), .int 3, .int 1]) (rest := []) (c_X5_put Z l AD M _ hn j k 3 4 160 (by omega) (if_pos (by omega)) (if_pos (by omega)) (by omega) (by omega) 1) kY_X5_put kV_X5_put (gC_tabl (by omega) hn) rfl rfl w3_154 rfl ⟨rfl, rfl⟩ ⟨(Nat.le_of_ble_eq_true rfl), (Nat.le_of_ble_eq_true rfl)⟩ rfl (Nat.le_of_ble_eq_true rfl) hl.1 ⟨Nat.zero_le _, Nat.zero_le _⟩ dX3_takeAnswer_21 rfl (fun H locs hG => ?_)
    exact gg_vret F hG (congrArg (fun q => wC Z AD q n) (Eq.symm (if_neg h11))) dX3_takeAnswer_24
set_option maxRecDepth 100000 in
set_option maxHeartbeats 4000000 in
theorem c_X3_wearCrystal (Z : gZ) (l : Launch) (AD : Nat → Nat) (M : St) (n : Nat) (hn : 78 ≤ n) (j : Nat) (hj : j < 16) : gM Z l yX3_wearCrystal cX3_wearCrystal 1 none ({ frames := 0, cells := 0, slots := 0, locals := 0 } : Room) [.ref (AD (26 + j))] (wC Z AD M n) (none) (wC Z AD (weaF M j) n) 0 0 := by
  refine gM_of (by decide +kernel) (Nat.le_of_ble_eq_true rfl) ?_
  intro pP eE sS mI aA bB mE cC A F hname hG ls hl
  have hx := F.1
  have hb := F.2.1
  have hl : lv_has ls 1 [(0, .ref (AD (26 + j)))] := hl
  refine lv_aload_n hx hb dX3_wearCrystal_0 rfl (lv_at hl 0 rfl) ?_
  refine gg_get F hG (ci := 3) (v := .int (M 14 j 0)) 2 gcX3 rfl (gC_memb hj hn) (by decide) w1_108 rfl dX3_wearCrystal_1 ?_
  refine lv_if_eq (tgt := 30) hx hb dX3_wearCrystal_4 (by decide) (fun h4 => ?_) (fun h4 => ?_)
  · exact gg_vret F hG (congrArg (fun q => wC Z AD q n) (Eq.symm (if_pos h4))) dX3_wearCrystal_30
  · refine lv_aload_n hx hb dX3_wearCrystal_7 rfl (lv_at hl 0 rfl) ?_
    refine gg_get F hG (ci := 3) (v := .ref (AD (9 + j))) 0 gcX3 rfl (gC_memb hj hn) (by decide) w1_102 rfl dX3_wearCrystal_8 ?_
    refine gg_getN F hG (ci := 1) (v := .int (M 11 j 0)) 3 gcX1 rfl (gC_cset (by omega) hn) (by decide) wn_7 rfl dX3_wearCrystal_11 ?_
    refine lv_if_le (tgt := 30) hx hb dX3_wearCrystal_14 (by decide) (fun h14 => ?_) (fun h14 => ?_)
    · exact gg_vret F hG (congrArg (fun q => wC Z AD q n) (Eq.symm ((if_neg h4).trans (if_pos h14)))) dX3_wearCrystal_30
    · refine lv_aload_n hx hb dX3_wearCrystal_17 rfl (lv_at hl 0 rfl) ?_
      refine gg_get F hG (ci := 3) (v := .ref (AD (9 + j))) 0 gcX3 rfl (gC_memb hj hn) (by decide) w1_102 rfl dX3_wearCrystal_18 ?_
      refine lv_dup hx hb dX3_wearCrystal_21 rfl ?_
      refine gg_getN F hG (ci := 1) (v := .int (M 11 j 0)) 3 gcX1 rfl (gC_cset (by omega) hn) (by decide) wn_7 rfl dX3_wearCrystal_22 ?_
      refine lv_iconst (v := 1) hx hb dX3_wearCrystal_25 (by decide) ?_
      refine lv_isub hx hb dX3_wearCrystal_26 ?_
      refine gg_putN F hG (ci := 1) 3 gcX1 rfl (gC_cset (by omega) hn) (by decide) wn_7 rfl rfl rfl (Nat.le_of_ble_eq_true rfl) (pC_11 (by omega)) dX3_wearCrystal_27 (fun H locs hG => ?_)
      have hG : gG Z A sS (wC Z AD (mu M 11 j 0 ((M 11 j 0) - 1)) n) H locs := hG
      exact gg_vret F hG (congrArg (fun q => wC Z AD q n) (Eq.symm ((if_neg h4).trans (if_neg h14)))) dX3_wearCrystal_30
end
