/-! the club's outer constructor; a world of cells as a table of numbers -/
def reE (e e' : va_E) : Prop := e = e' ∨ ∃ (cA : ClassId) (n : Nat) (f g : Nat → Option Nat), e = .inl (cA, n, .inr (.inr (.inr (.inr f)))) ∧ e' = .inl (cA, n, .inr (.inr (.inr (.inr g)))) ∧ ∀ j, j < n → f j = g j
theorem arrV_c {c : ClassId} {n : Nat} {f g : Nat → Value} (h : ∀ j, j < n → f j = g j) : arrV c n f = arrV c n g := by
  unfold arrV
  congr 1
  apply Array.ext
  · simp
  · intro i h1 h2
    simp at h1
    simp [h i h1]
theorem reE_at {D : va_G} {cl : List vw_C} {a : Nat} {e e' : va_E} {H : Heap} (h : reE e e') (hq : va_at D cl (a, e) H) : va_at D cl (a, e') H := by
  rcases h with rfl | ⟨cA, n, f, g, rfl, rfl, hfg⟩
  · exact hq
  · show H[a]? = some (vp_cell cA (n, .inr (.inr (.inr (.inr g)))))
    have h0 : H[a]? = some (vp_cell cA (n, .inr (.inr (.inr (.inr f))))) := hq
    rw [h0, vp_cell_q, vp_cell_q, arrV_c (fun j hj => by rw [hfg j hj])]
theorem pickPD {D : va_G} {cl : List vw_C} {ws : va_W} {H : Heap} {A : Nat → Prop} {AD : Nat → Nat} {ct : Nat → va_E} {N : Nat} (sg : Nat → Nat) (hinj : ∀ i, i < N → ∀ j, j < N → sg i = sg j → i = j) (h : ∀ k, k < N → ∃ e, ws[sg k]? = some (AD k, e) ∧ reE e (ct k)) (hP : va_P D cl ws H) (hD : va_D A ws) : va_P D cl (wm AD ct N) H ∧ va_D A (wm AD ct N) := by
  have hlt : ∀ (k : Nat) (q : Nat × va_E), (wm AD ct N)[k]? = some q → k < N ∧ q = (AD k, ct k) := by
    intro k q hk
    have h1 : k < N := by
      have := (List.getElem?_eq_some_iff.mp hk).1
      simpa [wm] using this
    rw [wm_get h1] at hk
    exact ⟨h1, (Option.some.inj hk).symm⟩
  refine ⟨fun k q hk => ?_, fun i j p q hi hj e => ?_, fun k q hk => ?_⟩
  · obtain ⟨h1, rfl⟩ := hlt k q hk
    obtain ⟨e, he, hr⟩ := h k h1
    exact reE_at hr (hP _ _ he)
  · obtain ⟨h1, rfl⟩ := hlt i p hi
    obtain ⟨h2, rfl⟩ := hlt j q hj
    obtain ⟨e1, he1, -⟩ := h i h1
    obtain ⟨e2, he2, -⟩ := h j h2
    exact hinj i h1 j h2 (hD.1 _ _ _ _ he1 he2 e)
  · obtain ⟨h1, rfl⟩ := hlt k q hk
    obtain ⟨e, he, -⟩ := h k h1
    exact hD.2 _ (AD k, e) he
theorem gG.swap {Z : gZ} {A : Nat → Prop} {s : State} {ws ws2 X : va_W} {H : Heap} {locs : List Loc} (G : gG Z A s (ws ++ X) H locs) (h : ∀ A' : Nat → Prop, va_P Z.1 vwCl ws H → va_D A' ws → va_P Z.1 vwCl ws2 H ∧ va_D A' ws2) : gG Z A s (ws2 ++ X) H locs := by
  have h1 := h A G.left.1 G.left.2.1
  have h2 := (h (fun q => ∃ x ∈ ws, x.1 = q) G.left.1 ⟨G.left.2.1.1, fun k q hk => ⟨q, List.mem_of_getElem? hk, rfl⟩⟩).2
  refine ⟨h1.1.app G.right.1, ⟨dn_of.mpr ?_, ?_⟩, G.2.2⟩
  · have hn := G.nodup
    rw [List.map_append] at hn ⊢
    have hn1 := List.nodup_append.mp hn
    refine List.nodup_append.mpr ⟨dn_of.mp h1.2.1, hn1.2.1, ?_⟩
    intro a ha b hb e
    obtain ⟨x, hx, rfl⟩ := List.mem_map.mp ha
    obtain ⟨i, hi⟩ := List.getElem?_of_mem hx
    obtain ⟨y, hy, hxy⟩ := h2.2 i x hi
    exact hn1.2.2 x.1 (List.mem_map.mpr ⟨y, hy, hxy⟩) b hb e
  · intro k q hq
    rcases List.mem_append.mp (List.mem_of_getElem? hq) with h | h
    · obtain ⟨i, hi⟩ := List.getElem?_of_mem h
      exact h1.2.2 i q hi
    · obtain ⟨i, hi⟩ := List.getElem?_of_mem h
      exact G.right.2.1.2 i q hi
def M00 : St := fun _ _ _ => 0
/-- the cells of a new outer object, as they were made -/
def rootE (Z : gZ) (a p c1 q1 q2 : Nat) (f : Nat → a4) (q3 q4 q5 c2 r1 r2 : Nat) (g : Nat → a4) (r3 r4 r5 : Nat) : va_W := [(p, .inr (1, [.int 0, .int 0, .int 0, .int 0, .int 0, .int 0]))] ++ (clubE Z c2 r1 r2 g r3 r4 r5 ++ (clubE Z c1 q1 q2 f q3 q4 q5 ++ [(a, .inr (6, [.ref c1, .ref c2, .ref p]))]))
set_option maxRecDepth 100000 in
set_option maxHeartbeats 4000000 in
theorem c_X6_init (Z : gZ) (l : Launch) (a : Nat) : gE Z l yX6_init cX6_init 1 none ({ frames := 4, cells := 77, slots := 3006, locals := 130 } : Room) [.ref a] [(a, .inr (6, [.null, .null, .null]))] none (fun w => ∃ (p c1 q1 q2 : Nat) (f : Nat → a4) (q3 q4 q5 c2 r1 r2 : Nat) (g : Nat → a4) (r3 r4 r5 : Nat), w = rootE Z a p c1 q1 q2 f q3 q4 q5 c2 r1 r2 g r3 r4 r5) 77 3006 := by
  refine gE_of (by decide +kernel) (Nat.le_of_ble_eq_true rfl) ?_
  intro pP eE sS mI aA bB mE cC A F hname hG ls hl
  have hx := F.1
  have hb := F.2.1
  have hl : lv_has ls 1 [(0, .ref a)] := hl
  refine lv_aload_n hx hb dX6_init_0 rfl (lv_at hl 0 rfl) ?_
  refine W.objInit hx hb F.2.2.2.1 (F.2.2.2.2.1 _ w1_24) (F.2.2.2.2.1 _ w1_25) (F.2.2.2.2.1 _ w1_26) rfl (by rw [F.2.2.1]; exact hl.1) rfl dX6_init_1 (Nat.le_of_ble_eq_true rfl) (Nat.le_of_ble_eq_true rfl) ?_
  refine W.eq (g2 := F0 mI 4 ls []) rfl ?_
  refine lv_aload_n hx hb dX6_init_4 rfl (lv_at hl 0 rfl) ?_
  refine gg_new (ci := 0) (fs := [.null, .null, .null, .null, .int 0, .int 0, .int 0]) F hG gcX0 w1_27 w1_28 w1_2 rfl (fun j hj => match j, hj with | 0, _ => rfl | 1, _ => rfl | 2, _ => rfl | 3, _ => rfl | 4, _ => rfl | 5, _ => rfl | 6, _ => rfl | j + 7, h => absurd h (by omega)) (by decide) (by decide) dX6_init_5 (fun c1 H hG => ?_)
  refine lv_dup hx hb dX6_init_8 rfl ?_
  have hG := gG.comm hG
  refine ge_callI F hG (As := []) (rest := [.ref c1, .ref a]) (c_X0_init Z l c1) kY_X0_init kV_X0_init w1_29 rfl ⟨rfl, rfl⟩ ⟨(Nat.le_of_ble_eq_true rfl), (Nat.le_of_ble_eq_true rfl)⟩ rfl (Nat.le_of_ble_eq_true rfl) hl.1 ⟨(Nat.le_of_ble_eq_true rfl), (Nat.le_of_ble_eq_true rfl)⟩ dX6_init_9 rfl (fun H locs ws' hw hG => ?_)
  obtain ⟨q1, q2, f, q3, q4, q5, rfl⟩ := hw
  refine gg_putF (ws' := (clubE Z c1 q1 q2 f q3 q4 q5 ++ ([(a, .inr (6, [.ref c1, .null, .null]))] : va_W))) F hG (ci := 6) (q0 := (clubE Z c1 q1 q2 f q3 q4 q5).length + 0) 0 gcX6 rfl ((apX 0).trans rfl) (by decide) w1_168 rfl (hname.trans rfl) rfl rfl rfl (Nat.le_of_ble_eq_true rfl) (apY 0 _) dX6_init_12 (fun H locs hG => ?_)
  refine lv_aload_n hx hb dX6_init_15 rfl (lv_at hl 0 rfl) ?_
  refine gg_new (ci := 0) (fs := [.null, .null, .null, .null, .int 0, .int 0, .int 0]) F hG gcX0 w1_27 w1_28 w1_2 rfl (fun j hj => match j, hj with | 0, _ => rfl | 1, _ => rfl | 2, _ => rfl | 3, _ => rfl | 4, _ => rfl | 5, _ => rfl | 6, _ => rfl | j + 7, h => absurd h (by omega)) (by decide) (by decide) dX6_init_16 (fun c2 H hG => ?_)
  refine lv_dup hx hb dX6_init_19 rfl ?_
  have hG := gG.comm hG
  refine ge_callI F hG (As := []) (rest := [.ref c2, .ref a]) (c_X0_init Z l c2) kY_X0_init kV_X0_init w1_29 rfl ⟨rfl, rfl⟩ ⟨(Nat.le_of_ble_eq_true rfl), (Nat.le_of_ble_eq_true rfl)⟩ rfl (Nat.le_of_ble_eq_true rfl) hl.1 ⟨(Nat.le_of_ble_eq_true rfl), (Nat.le_of_ble_eq_true rfl)⟩ dX6_init_20 rfl (fun H locs ws' hw hG => ?_)
  obtain ⟨r1, r2, g, r3, r4, r5, rfl⟩ := hw
  refine gg_putF (ws' := (clubE Z c2 r1 r2 g r3 r4 r5 ++ (clubE Z c1 q1 q2 f q3 q4 q5 ++ ([(a, .inr (6, [.ref c1, .ref c2, .null]))] : va_W)))) F hG (ci := 6) (q0 := (clubE Z c2 r1 r2 g r3 r4 r5).length + ((clubE Z c1 q1 q2 f q3 q4 q5).length + 0)) 1 gcX6 rfl ((apX _).trans ((apX 0).trans rfl)) (by decide) w1_169 rfl (hname.trans rfl) rfl rfl rfl (Nat.le_of_ble_eq_true rfl) ((apY _ _).trans (congrArg (clubE Z c2 r1 r2 g r3 r4 r5 ++ ·) (apY 0 _))) dX6_init_23 (fun H locs hG => ?_)
  refine lv_aload_n hx hb dX6_init_26 rfl (lv_at hl 0 rfl) ?_
  refine gg_new (ci := 1) (fs := [.int 0, .int 0, .int 0, .int 0, .int 0, .int 0]) F hG gcX1 w1_166 w1_43 w1_4 rfl (fun j hj => match j, hj with | 0, _ => rfl | 1, _ => rfl | 2, _ => rfl | 3, _ => rfl | 4, _ => rfl | 5, _ => rfl | j + 6, h => absurd h (by omega)) (by decide) (by decide) dX6_init_27 (fun p H hG => ?_)
  refine lv_dup hx hb dX6_init_30 rfl ?_
  have hG := gG.comm hG
  refine ge_callIN F hG (As := []) (rest := [.ref p, .ref a]) (c_X1_init Z l p) kY_X1_init kV_X1_init wn_28 rfl ⟨rfl, rfl⟩ ⟨(Nat.le_of_ble_eq_true rfl), (Nat.le_of_ble_eq_true rfl)⟩ rfl (Nat.le_of_ble_eq_true rfl) hl.1 ⟨(Nat.le_of_ble_eq_true rfl), (Nat.le_of_ble_eq_true rfl)⟩ dX6_init_31 rfl (fun H locs ws' hw hG => ?_)
  have hw := hw
  subst hw
  refine gg_putF (ws' := (([(p, .inr (1, [.int 0, .int 0, .int 0, .int 0, .int 0, .int 0]))] : va_W) ++ (clubE Z c2 r1 r2 g r3 r4 r5 ++ (clubE Z c1 q1 q2 f q3 q4 q5 ++ ([(a, .inr (6, [.ref c1, .ref c2, .ref p]))] : va_W))))) F hG (ci := 6) (q0 := ([(p, .inr (1, [.int 0, .int 0, .int 0, .int 0, .int 0, .int 0]))] : va_W).length + ((clubE Z c2 r1 r2 g r3 r4 r5).length + ((clubE Z c1 q1 q2 f q3 q4 q5).length + 0))) 2 gcX6 rfl ((apX _).trans ((apX _).trans ((apX 0).trans rfl))) (by decide) w1_170 rfl (hname.trans rfl) rfl rfl rfl (Nat.le_of_ble_eq_true rfl) ((apY _ _).trans (congrArg (([(p, .inr (1, [.int 0, .int 0, .int 0, .int 0, .int 0, .int 0]))] : va_W) ++ ·) ((apY _ _).trans (congrArg (clubE Z c2 r1 r2 g r3 r4 r5 ++ ·) (apY 0 _))))) dX6_init_34 (fun H locs hG => ?_)
  exact ge_vret F hG ⟨p, c1, q1, q2, f, q3, q4, q5, c2, r1, r2, g, r3, r4, r5, rfl⟩ dX6_init_37
def sgC : List Nat := [77, 74, 36, 75, 37, 76, 38, 39, 1, 72, 68, 64, 60, 56, 52, 48, 44, 34, 30, 26, 22, 18, 14, 10, 6, 0, 73, 69, 65, 61, 57, 53, 49, 45, 35, 31, 27, 23, 19, 15, 11, 7, 70, 66, 62, 58, 54, 50, 46, 42, 32, 28, 24, 20, 16, 12, 8, 4, 40, 2, 71, 67, 63, 59, 55, 51, 47, 43, 33, 29, 25, 21, 17, 13, 9, 5, 41, 3]
theorem sgC_inj : ∀ i, i < 78 → ∀ j, j < 78 → sgC.getD i 0 = sgC.getD j 0 → i = j := by
  have h : (List.range 78).all (fun i => (List.range 78).all (fun j => decide (sgC.getD i 0 = sgC.getD j 0 → i = j))) = true := by decide +kernel
  intro i hi j hj
  exact of_decide_eq_true (List.all_eq_true.mp (List.all_eq_true.mp h i (List.mem_range.mpr hi)) j (List.mem_range.mpr hj))
def adC (a p c1 q1 q2 : Nat) (f : Nat → a4) (q3 q4 q5 c2 r1 r2 : Nat) (g : Nat → a4) (r3 r4 r5 : Nat) : List Nat := [a, c1, c2, q1, r1, q2, r2, q5, r5, (f 0).2.1, (f 1).2.1, (f 2).2.1, (f 3).2.1, (f 4).2.1, (f 5).2.1, (f 6).2.1, (f 7).2.1, (g 0).2.1, (g 1).2.1, (g 2).2.1, (g 3).2.1, (g 4).2.1, (g 5).2.1, (g 6).2.1, (g 7).2.1, p, (f 0).1, (f 1).1, (f 2).1, (f 3).1, (f 4).1, (f 5).1, (f 6).1, (f 7).1, (g 0).1, (g 1).1, (g 2).1, (g 3).1, (g 4).1, (g 5).1, (g 6).1, (g 7).1, (f 0).2.2.1, (f 1).2.2.1, (f 2).2.2.1, (f 3).2.2.1, (f 4).2.2.1, (f 5).2.2.1, (f 6).2.2.1, (f 7).2.2.1, (g 0).2.2.1, (g 1).2.2.1, (g 2).2.2.1, (g 3).2.2.1, (g 4).2.2.1, (g 5).2.2.1, (g 6).2.2.1, (g 7).2.2.1, q3, r3, (f 0).2.2.2, (f 1).2.2.2, (f 2).2.2.2, (f 3).2.2.2, (f 4).2.2.2, (f 5).2.2.2, (f 6).2.2.2, (f 7).2.2.2, (g 0).2.2.2, (g 1).2.2.2, (g 2).2.2.2, (g 3).2.2.2, (g 4).2.2.2, (g 5).2.2.2, (g 6).2.2.2, (g 7).2.2.2, q4, r4]
set_option maxRecDepth 100000 in
set_option maxHeartbeats 4000000 in
theorem rootE_C {Z : gZ} {D : va_G} {cl : List vw_C} {H : Heap} {A : Nat → Prop} {a p c1 q1 q2 : Nat} {f : Nat → a4} {q3 q4 q5 c2 r1 r2 : Nat} {g : Nat → a4} {r3 r4 r5 : Nat} (hP : va_P D cl (rootE Z a p c1 q1 q2 f q3 q4 q5 c2 r1 r2 g r3 r4 r5) H) (hD : va_D A (rootE Z a p c1 q1 q2 f q3 q4 q5 c2 r1 r2 g r3 r4 r5)) : va_P D cl (wC Z (fun k => (adC a p c1 q1 q2 f q3 q4 q5 c2 r1 r2 g r3 r4 r5).getD k 0) M00 78) H ∧ va_D A (wC Z (fun k => (adC a p c1 q1 q2 f q3 q4 q5 c2 r1 r2 g r3 r4 r5).getD k 0) M00 78) := by
  refine pickPD (fun k => sgC.getD k 0) sgC_inj (fun k hk => ?_) hP hD
  match k, hk with
  | 0, _ => exact ⟨_, rfl, Or.inl rfl⟩
  | 1, _ => exact ⟨_, rfl, Or.inl rfl⟩
  | 2, _ => exact ⟨_, rfl, Or.inl rfl⟩
  | 3, _ => exact ⟨_, rfl, Or.inl rfl⟩
  | 4, _ => exact ⟨_, rfl, Or.inl rfl⟩
  | 5, _ => exact ⟨_, rfl, Or.inr ⟨_, _, _, _, rfl, rfl, fun j hj => match j, hj with | 0, _ => rfl | 1, _ => rfl | 2, _ => rfl | 3, _ => rfl | 4, _ => rfl | 5, _ => rfl | 6, _ => rfl | 7, _ => rfl | n + 8, h => absurd h (by omega)⟩⟩
  | 6, _ => exact ⟨_, rfl, Or.inr ⟨_, _, _, _, rfl, rfl, fun j hj => match j, hj with | 0, _ => rfl | 1, _ => rfl | 2, _ => rfl | 3, _ => rfl | 4, _ => rfl | 5, _ => rfl | 6, _ => rfl | 7, _ => rfl | n + 8, h => absurd h (by omega)⟩⟩
  | 7, _ => exact ⟨_, rfl, Or.inl rfl⟩
  | 8, _ => exact ⟨_, rfl, Or.inl rfl⟩
  | 9, _ => exact ⟨_, rfl, Or.inl rfl⟩
  | 10, _ => exact ⟨_, rfl, Or.inl rfl⟩
  | 11, _ => exact ⟨_, rfl, Or.inl rfl⟩
  | 12, _ => exact ⟨_, rfl, Or.inl rfl⟩
  | 13, _ => exact ⟨_, rfl, Or.inl rfl⟩
  | 14, _ => exact ⟨_, rfl, Or.inl rfl⟩
  | 15, _ => exact ⟨_, rfl, Or.inl rfl⟩
  | 16, _ => exact ⟨_, rfl, Or.inl rfl⟩
  | 17, _ => exact ⟨_, rfl, Or.inl rfl⟩
  | 18, _ => exact ⟨_, rfl, Or.inl rfl⟩
  | 19, _ => exact ⟨_, rfl, Or.inl rfl⟩
  | 20, _ => exact ⟨_, rfl, Or.inl rfl⟩
  | 21, _ => exact ⟨_, rfl, Or.inl rfl⟩
  | 22, _ => exact ⟨_, rfl, Or.inl rfl⟩
  | 23, _ => exact ⟨_, rfl, Or.inl rfl⟩
  | 24, _ => exact ⟨_, rfl, Or.inl rfl⟩
  | 25, _ => exact ⟨_, rfl, Or.inl rfl⟩
  | 26, _ => exact ⟨_, rfl, Or.inl rfl⟩
  | 27, _ => exact ⟨_, rfl, Or.inl rfl⟩
  | 28, _ => exact ⟨_, rfl, Or.inl rfl⟩
  | 29, _ => exact ⟨_, rfl, Or.inl rfl⟩
  | 30, _ => exact ⟨_, rfl, Or.inl rfl⟩
  | 31, _ => exact ⟨_, rfl, Or.inl rfl⟩
  | 32, _ => exact ⟨_, rfl, Or.inl rfl⟩
  | 33, _ => exact ⟨_, rfl, Or.inl rfl⟩
  | 34, _ => exact ⟨_, rfl, Or.inl rfl⟩
  | 35, _ => exact ⟨_, rfl, Or.inl rfl⟩
  | 36, _ => exact ⟨_, rfl, Or.inl rfl⟩
  | 37, _ => exact ⟨_, rfl, Or.inl rfl⟩
  | 38, _ => exact ⟨_, rfl, Or.inl rfl⟩
  | 39, _ => exact ⟨_, rfl, Or.inl rfl⟩
  | 40, _ => exact ⟨_, rfl, Or.inl rfl⟩
  | 41, _ => exact ⟨_, rfl, Or.inl rfl⟩
  | 42, _ => exact ⟨_, rfl, Or.inl rfl⟩
  | 43, _ => exact ⟨_, rfl, Or.inl rfl⟩
  | 44, _ => exact ⟨_, rfl, Or.inl rfl⟩
  | 45, _ => exact ⟨_, rfl, Or.inl rfl⟩
  | 46, _ => exact ⟨_, rfl, Or.inl rfl⟩
  | 47, _ => exact ⟨_, rfl, Or.inl rfl⟩
  | 48, _ => exact ⟨_, rfl, Or.inl rfl⟩
  | 49, _ => exact ⟨_, rfl, Or.inl rfl⟩
  | 50, _ => exact ⟨_, rfl, Or.inl rfl⟩
  | 51, _ => exact ⟨_, rfl, Or.inl rfl⟩
  | 52, _ => exact ⟨_, rfl, Or.inl rfl⟩
  | 53, _ => exact ⟨_, rfl, Or.inl rfl⟩
  | 54, _ => exact ⟨_, rfl, Or.inl rfl⟩
  | 55, _ => exact ⟨_, rfl, Or.inl rfl⟩
  | 56, _ => exact ⟨_, rfl, Or.inl rfl⟩
  | 57, _ => exact ⟨_, rfl, Or.inl rfl⟩
  | 58, _ => exact ⟨_, rfl, Or.inl rfl⟩
  | 59, _ => exact ⟨_, rfl, Or.inl rfl⟩
  | 60, _ => exact ⟨_, rfl, Or.inl rfl⟩
  | 61, _ => exact ⟨_, rfl, Or.inl rfl⟩
  | 62, _ => exact ⟨_, rfl, Or.inl rfl⟩
  | 63, _ => exact ⟨_, rfl, Or.inl rfl⟩
  | 64, _ => exact ⟨_, rfl, Or.inl rfl⟩
  | 65, _ => exact ⟨_, rfl, Or.inl rfl⟩
  | 66, _ => exact ⟨_, rfl, Or.inl rfl⟩
  | 67, _ => exact ⟨_, rfl, Or.inl rfl⟩
  | 68, _ => exact ⟨_, rfl, Or.inl rfl⟩
  | 69, _ => exact ⟨_, rfl, Or.inl rfl⟩
  | 70, _ => exact ⟨_, rfl, Or.inl rfl⟩
  | 71, _ => exact ⟨_, rfl, Or.inl rfl⟩
  | 72, _ => exact ⟨_, rfl, Or.inl rfl⟩
  | 73, _ => exact ⟨_, rfl, Or.inl rfl⟩
  | 74, _ => exact ⟨_, rfl, Or.inl rfl⟩
  | 75, _ => exact ⟨_, rfl, Or.inl rfl⟩
  | 76, _ => exact ⟨_, rfl, Or.inl rfl⟩
  | 77, _ => exact ⟨_, rfl, Or.inl rfl⟩
  | n + 78, h => exact absurd h (by omega)
def sgM : List Nat := [10, 11, 12, 13, 14, 15, 5, 0, 6, 1, 7, 2, 8, 3, 9, 4]
theorem sgM_inj : ∀ i, i < 16 → ∀ j, j < 16 → sgM.getD i 0 = sgM.getD j 0 → i = j := by
  have h : (List.range 16).all (fun i => (List.range 16).all (fun j => decide (sgM.getD i 0 = sgM.getD j 0 → i = j))) = true := by decide +kernel
  intro i hi j hj
  exact of_decide_eq_true (List.all_eq_true.mp (List.all_eq_true.mp h i (List.mem_range.mpr hi)) j (List.mem_range.mpr hj))
def modE (Z : gZ) (a q1 q2 q3 q4 q5 q6 q7 q8 q9 q10 q11 q12 q13 q14 q15 : Nat) : va_W := [(q11, .inr (7, [.int 0, .int 0, .int 0, .int 0, .ref q12, .ref q13, .ref q14, .ref q15, .ref a])), (q12, .inl (Z.2.1, 8, .inl (fun _ => 0))), (q13, .inl (Z.2.1, 8, .inl (fun _ => 0))), (q14, .inl (Z.2.1, 1280, .inl (fun _ => 0))), (q15, .inl (Z.2.1, 60, .inl (fun _ => 0))), (q6, .inr (7, [.int 0, .int 0, .int 0, .int 0, .ref q7, .ref q8, .ref q9, .ref q10, .ref a])), (q7, .inl (Z.2.1, 8, .inl (fun _ => 0))), (q8, .inl (Z.2.1, 8, .inl (fun _ => 0))), (q9, .inl (Z.2.1, 1280, .inl (fun _ => 0))), (q10, .inl (Z.2.1, 60, .inl (fun _ => 0))), (a, .inr (8, [.int 0, .int 0, .int 0, .ref q1, .ref q2, .ref q3, .ref q4, .ref q5, .ref q6, .ref q11])), (q1, .inl (Z.2.1, 72, .inl (fun _ => 0))), (q2, .inl (Z.2.1, 8, .inl (fun _ => 0))), (q3, .inl (Z.2.1, 8, .inl (fun _ => 0))), (q4, .inl (Z.2.1, 8, .inl (fun _ => 0))), (q5, .inl (Z.2.1, 8, .inl (fun _ => 0)))]
set_option maxRecDepth 100000 in
set_option maxHeartbeats 4000000 in
theorem modE_R {Z : gZ} {D : va_G} {cl : List vw_C} {H : Heap} {A : Nat → Prop} {a q1 q2 q3 q4 q5 q6 q7 q8 q9 q10 q11 q12 q13 q14 q15 : Nat} (hP : va_P D cl (modE Z a q1 q2 q3 q4 q5 q6 q7 q8 q9 q10 q11 q12 q13 q14 q15) H) (hD : va_D A (modE Z a q1 q2 q3 q4 q5 q6 q7 q8 q9 q10 q11 q12 q13 q14 q15)) : va_P D cl (wR Z (fun k => ([a, q1, q2, q3, q4, q5, q6, q11, q7, q12, q8, q13, q9, q14, q10, q15] : List Nat).getD k 0) M00 16) H ∧ va_D A (wR Z (fun k => ([a, q1, q2, q3, q4, q5, q6, q11, q7, q12, q8, q13, q9, q14, q10, q15] : List Nat).getD k 0) M00 16) := by
  refine pickPD (fun k => sgM.getD k 0) sgM_inj (fun k hk => ?_) hP hD
  match k, hk with
  | 0, _ => exact ⟨_, rfl, Or.inl rfl⟩
  | 1, _ => exact ⟨_, rfl, Or.inl rfl⟩
  | 2, _ => exact ⟨_, rfl, Or.inl rfl⟩
  | 3, _ => exact ⟨_, rfl, Or.inl rfl⟩
  | 4, _ => exact ⟨_, rfl, Or.inl rfl⟩
  | 5, _ => exact ⟨_, rfl, Or.inl rfl⟩
  | 6, _ => exact ⟨_, rfl, Or.inl rfl⟩
  | 7, _ => exact ⟨_, rfl, Or.inl rfl⟩
  | 8, _ => exact ⟨_, rfl, Or.inl rfl⟩
  | 9, _ => exact ⟨_, rfl, Or.inl rfl⟩
  | 10, _ => exact ⟨_, rfl, Or.inl rfl⟩
  | 11, _ => exact ⟨_, rfl, Or.inl rfl⟩
  | 12, _ => exact ⟨_, rfl, Or.inl rfl⟩
  | 13, _ => exact ⟨_, rfl, Or.inl rfl⟩
  | 14, _ => exact ⟨_, rfl, Or.inl rfl⟩
  | 15, _ => exact ⟨_, rfl, Or.inl rfl⟩
  | n + 16, h => exact absurd h (by omega)
