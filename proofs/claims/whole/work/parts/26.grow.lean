/-! worlds that grow: a contract with a family of ends (gE), a call beside the rest of the world, new objects and rows -/
theorem dn_of {ws : va_W} : (∀ (i j : Nat) (p q : Nat × va_E), ws[i]? = some p → ws[j]? = some q → p.1 = q.1 → i = j) ↔ (ws.map Prod.fst).Nodup := by
  constructor
  · intro h
    rw [List.Nodup, List.pairwise_map, List.pairwise_iff_getElem]
    intro i j hi hj hij e
    have := h i j _ _ (List.getElem?_eq_getElem hi) (List.getElem?_eq_getElem hj) e
    omega
  · intro h i j p q hp hq e
    rw [List.Nodup, List.pairwise_map, List.pairwise_iff_getElem] at h
    obtain ⟨hi, rfl⟩ := List.getElem?_eq_some_iff.mp hp
    obtain ⟨hj, rfl⟩ := List.getElem?_eq_some_iff.mp hq
    rcases Nat.lt_trichotomy i j with hl | hl | hl
    · exact absurd e (h i j hi hj hl)
    · exact hl
    · exact absurd e.symm (h j i hj hi hl)
theorem gG.mem {Z : gZ} {A : Nat → Prop} {s : State} {ws ws' : va_W} {H : Heap} {locs : List Loc} (G : gG Z A s ws H locs) (h : ∀ x ∈ ws', x ∈ ws) (hd : (ws'.map Prod.fst).Nodup) : gG Z A s ws' H locs := by
  refine ⟨fun k q hk => ?_, ⟨dn_of.mpr hd, fun k q hk => ?_⟩, G.2.2⟩
  · obtain ⟨i, hi⟩ := List.getElem?_of_mem (h q (List.mem_of_getElem? hk))
    exact G.1 i q hi
  · obtain ⟨i, hi⟩ := List.getElem?_of_mem (h q (List.mem_of_getElem? hk))
    exact G.2.1.2 i q hi
theorem gG.nodup {Z : gZ} {A : Nat → Prop} {s : State} {ws : va_W} {H : Heap} {locs : List Loc} (G : gG Z A s ws H locs) : (ws.map Prod.fst).Nodup := dn_of.mp G.2.1.1
theorem gG.left {Z : gZ} {A : Nat → Prop} {s : State} {ws X : va_W} {H : Heap} {locs : List Loc} (G : gG Z A s (ws ++ X) H locs) : gG Z A s ws H locs := by
  have h := G.nodup
  rw [List.map_append] at h
  exact G.mem (fun x hx => List.mem_append_left _ hx) (List.nodup_append.mp h).1
theorem gG.right {Z : gZ} {A : Nat → Prop} {s : State} {ws X : va_W} {H : Heap} {locs : List Loc} (G : gG Z A s (ws ++ X) H locs) : gG Z A s X H locs := by
  have h := G.nodup
  rw [List.map_append] at h
  exact G.mem (fun x hx => List.mem_append_right _ hx) (List.nodup_append.mp h).2.1
theorem gG.comm {Z : gZ} {A : Nat → Prop} {s : State} {ws X : va_W} {H : Heap} {locs : List Loc} (G : gG Z A s (ws ++ X) H locs) : gG Z A s (X ++ ws) H locs := by
  have h := G.nodup
  refine G.mem (fun x hx => List.mem_append.mpr (List.mem_append.mp hx).symm) ?_
  rw [List.map_append] at h ⊢
  have h1 := List.nodup_append.mp h
  exact List.nodup_append.mpr ⟨h1.2.1, h1.1, fun a ha b hb e => h1.2.2 b hb a ha e.symm⟩
def gQE (Z : gZ) (A : Nat → Prop) (v : Option Value) (P : va_W → Prop) : Array Value → State → Outcome → State → Prop := fun _ st oc t => (oc = .returned v ∧ ∃ ws, P ws ∧ va_P Z.1 vwCl ws t.heap ∧ va_D A ws) ∧ va_F A st t
/-- from any heap that holds ws: the method returns v, the heap holds a world of P, nothing else changed -/
def gE (Z : gZ) (l : Launch) (y : MethodName) (bytes : ByteArray) (maxL : Nat) (ret : Option FieldType) (rm : Room) (av : List Value) (ws : va_W) (v : Option Value) (P : va_W → Prop) (mc ms : Nat) : Prop := ∀ sz : Nat, Met l y (Cond.code y bytes maxL ret :: gW) rm (va_Pc av (gB Z ws sz)) (gQE Z (va_A ws sz) v P) mc ms (va_A ws sz)
theorem gE_of {Z : gZ} {l : Launch} {y : MethodName} {bytes : ByteArray} {maxL : Nat} {ret : Option FieldType} {rm : Room} {av : List Value} {ws : va_W} {v : Option Value} {P : va_W → Prop} {mc ms : Nat} (hy : plainName y.cls = true) (hav : (lg_sl av).length ≤ maxL)
    (body : ∀ (p : Program) (e : Env) (s : State) (m : MethodId) (args : Array Value) (below : List Frame) (meth : Method) (c : Code) (A : Nat → Prop), gF Z p m s args meth c bytes maxL y.cls ret → meth.name = y.name → gG Z A s ws s.heap [] → ∀ ls : Array Slot, lv_has ls maxL (lv_args 0 av) →
      W p l e rm s m args below meth c s.heap [] 0 0 (MQ below (gQE Z A v P) args s mc ms A) (F0 m 0 ls [])) : gE Z l y bytes maxL ret rm av ws v P mc ms := by
  intro sz
  refine Met.ofW (cc := bytes) (maxL := maxL) (ret := ret) hy rfl ?_
  intro p e s m args below meth c s₁ B hml hv
  obtain ⟨rfl, hsz, hP, hK, hD0⟩ := hv
  have hts := atoms_spec (ws := Cond.code y bytes maxL ret :: gW) B.pre
  subst hsz
  rw [lg_entry_eq]
  exact body p e s m _ below meth c (va_A ws s.heap.size) ⟨B.exec, B.bytes, hml, findClass_of_methodNamed B.named, fun w h => hts w (List.mem_cons_of_mem _ h), hK, B.returns, B.notSynchronized⟩ (name_of_methodNamed B.named B.method).1 ⟨hP, hD0.self, va_S.rf, fun q h => Or.inr h⟩ _ (lv_entry av hav)
section GROWS26
variable {p : Program} {l : Launch} {e : Env} {R : Room} {s : State} {m : MethodId} {args : Array Value} {below : List Frame} {meth : Method} {c : Code} {H : Heap} {locs : List Loc} {cells slots : Nat} {Q : State → Prop}
variable {Z : gZ} {A : Nat → Prop} {ws ws' X : va_W} {P : va_W → Prop} {cc : ByteArray} {nL pc : Nat} {own : String} {ret : Option FieldType} {ls : Array Slot} {rest : List Value}
/-- a call on a part of the world: the rest is as it was -/
theorem gg_goE {mc ms : Nat} {a : Array Value} {v : Option Value} {st0 stk : List Value} (hr : va_Run p l e R s m args below meth c H locs cells slots mc ms (F0 m pc ls st0) rest (gQE Z (va_A ws H.size) v P a) (va_A ws H.size)) (G : gG Z A s (ws ++ X) H locs) (hstk : v.toList ++ rest = stk)
    (kk : ∀ (H1 : Heap) (locs1 : List Loc) (ws' : va_W), P ws' → gG Z A s (ws' ++ X) H1 locs1 → W p l e R s m args below meth c H1 locs1 (cells + mc) (slots + ms) Q (F0 m (pc + 3) ls stk)) : W p l e R s m args below meth c H locs cells slots Q (F0 m pc ls st0) := by
  have hA1 := G.left.free
  have hXn : ∀ x ∈ X, x.1 < H.size ∧ ¬ va_A ws H.size x.1 := by
    intro x hx
    obtain ⟨i, hi⟩ := List.getElem?_of_mem hx
    have hlt : x.1 < H.size := (G.right.1 i x hi).lt
    refine ⟨hlt, fun h => ?_⟩
    rcases h with ⟨k, e, hk⟩ | h
    · have hk1 : (ws ++ X)[k]? = some (x.1, e) := by
        rw [List.getElem?_append_left (List.getElem?_eq_some_iff.mp hk).1]; exact hk
      have hk2 : (ws ++ X)[ws.length + i]? = some x := by
        rw [List.getElem?_append_right (by omega), show ws.length + i - ws.length = i by omega]; exact hi
      have := G.2.1.1 k (ws.length + i) _ _ hk1 hk2 rfl
      have := (List.getElem?_eq_some_iff.mp hk).1
      omega
    · omega
  have hXP := G.right.1
  have hXD := G.right.2.1
  obtain ⟨hP, hD, hS, hA⟩ := G
  intro T hT X0
  obtain ⟨v', st₀, t, T', L, h0, X', hL, e1, e2, ⟨⟨hv, ws', hPw, hp, hd⟩, hz, hk⟩, st⟩ := hr T hT X0
  cases hv
  subst hstk
  rw [h0] at hz hk
  have hXP' : va_P Z.1 vwCl X t.heap := hXP.kept (fun k q hq => hk q.1 (hXn q (List.mem_of_getElem? hq)).1 (hXn q (List.mem_of_getElem? hq)).2)
  have hDn : va_D A (ws' ++ X) := by
    refine ⟨dn_of.mpr ?_, ?_⟩
    · rw [List.map_append]
      refine List.nodup_append.mpr ⟨dn_of.mp hd.1, dn_of.mp hXD.1, ?_⟩
      intro a ha b hb e
      subst e
      obtain ⟨x, hx, rfl⟩ := List.mem_map.mp ha
      obtain ⟨y, hy, hxy⟩ := List.mem_map.mp hb
      obtain ⟨i, hi⟩ := List.getElem?_of_mem hx
      exact (hXn y hy).2 (hxy ▸ hd.2 i x hi)
    · intro k q hq
      rcases List.mem_append.mp (List.mem_of_getElem? hq) with h | h
      · obtain ⟨i, hi⟩ := List.getElem?_of_mem h
        exact hA1 _ (hd.2 i q hi)
      · obtain ⟨i, hi⟩ := List.getElem?_of_mem h
        exact hXD.2 i q hi
  obtain ⟨t2, a1, b1⟩ := kk T'.heap (locs ++ L) ws' hPw ⟨by rw [e1]; exact hp.app hXP', hDn, ⟨Nat.le_trans hS.1 (by rw [e1]; exact hz), fun q h1 h2 => by rw [e1, hk q (Nat.lt_of_lt_of_le h1 hS.1) (fun z => h2 (hA1 q z))]; exact hS.2.1 q h1 h2, fun q hq => by
      rcases List.mem_append.mp hq with h | h
      · exact hS.2.2 q h
      · exact hA1 _ (hL q h)⟩, hA⟩ T' rfl X'
  exact ⟨t2, st t2 a1, b1⟩
theorem gE_toRun {mc ms : Nat} {A1 : Nat → Prop} {a : Array Value} {v : Option Value} {g : JFrame} (hr : va_Run p l e R s m args below meth c H locs cells slots mc ms g rest (gQ Z A1 v ws' a) A1) : va_Run p l e R s m args below meth c H locs cells slots mc ms g rest (gQE Z A1 v (fun z => z = ws') a) A1 := by
  intro T hT X0
  obtain ⟨v', st₀, t, T', L, h0, X', hL, e1, e2, ⟨⟨hv, hp, hd⟩, hF⟩, st⟩ := hr T hT X0
  exact ⟨v', st₀, t, T', L, h0, X', hL, e1, e2, ⟨⟨hv, ws', rfl, hp, hd⟩, hF⟩, st⟩
theorem ge_callV (F : gF Z p m s args meth c cc nL own ret) (G : gG Z A s (ws ++ X) H locs) {y : MethodName} {bytes : ByteArray} {maxL n mc ms : Nat} {rt : Option FieldType} {rm : Room} {b : Nat} {As : List Value} {v : Option Value} {st0 stk : List Value} {k ci index : Nat} {fs : List Value} {r : vw_C}
    (hM : gE Z l y bytes maxL rt rm (.ref b :: As) ws v P mc ms) (hY : gY y bytes maxL rt n) (hV : Cond.instanceMethod y ∈ gW ∧ Cond.selects y.cls y y ∈ gW) (he : ws[k]? = some (b, .inr (ci, fs))) (hc : vwCl[ci]? = some r) (hcl : r.1 = y.cls) (hlink : Cond.methodLink own index y ∈ gW)
    (hn : As.length = n) (hrm : rm.cells = mc ∧ rm.slots = ms) (hR : rm.frames + 1 ≤ R.frames ∧ 8 + (maxL + 11) + rm.locals ≤ R.locals) (hst : st0 = As.reverse ++ .ref b :: rest) (hcat : (rest.map fun v => v.category).sum ≤ 8) (hls : ls.size = nL) (hRc : cells + mc ≤ R.cells ∧ slots + ms ≤ R.slots) (hdg : decode cc pc = .ok (.invokevirtual index, 3)) (hstk : v.toList ++ rest = stk)
    (kk : ∀ (H1 : Heap) (locs1 : List Loc) (ws' : va_W), P ws' → gG Z A s (ws' ++ X) H1 locs1 → W p l e R s m args below meth c H1 locs1 (cells + mc) (slots + ms) Q (F0 m (pc + 3) ls stk)) : W p l e R s m args below meth c H locs cells slots Q (F0 m pc ls st0) := by
  have hts := F.2.2.2.2.1
  refine gg_goE (va_runV (C := y.cls) (As := As) (rest := rest) ⟨F.1, F.2.1, F.2.2.1, F.2.2.2.1, hts⟩ (hM H.size) ⟨callB_of n hts hY.good rfl hrm.1 hrm.2 (hts _ hY.2.1) (hts _ hlink) ⟨hY.2.2.1.1, hY.2.2.1.2, hY.2.2.2⟩ hR, hts _ hV.1, hts _ hV.2⟩ ⟨gB_blind, ?_, G.left.pre F _⟩ rfl hn hls hst (lv_room hcat) hdg hRc) G hstk kk
  rw [← hcl]
  exact va_recv F.2.2.2.2.2.1.1 G.left.1 hc he
theorem ge_callI (F : gF Z p m s args meth c cc nL own ret) (G : gG Z A s (ws ++ X) H locs) {y : MethodName} {bytes : ByteArray} {maxL n mc ms : Nat} {rm : Room} {b : Nat} {As : List Value} {st0 stk : List Value} {index : Nat}
    (hM : gE Z l y bytes maxL none rm (.ref b :: As) ws none P mc ms) (hY : gY y bytes maxL none n) (hV : y.name = "<init>" ∧ Cond.instanceMethod y ∈ gW) (hlink : Cond.methodLink own index y ∈ gW)
    (hn : As.length = n) (hrm : rm.cells = mc ∧ rm.slots = ms) (hR : rm.frames + 1 ≤ R.frames ∧ 8 + (maxL + 11) + rm.locals ≤ R.locals) (hst : st0 = As.reverse ++ .ref b :: rest) (hcat : (rest.map fun v => v.category).sum ≤ 8) (hls : ls.size = nL) (hRc : cells + mc ≤ R.cells ∧ slots + ms ≤ R.slots) (hdg : decode cc pc = .ok (.invokespecial index, 3)) (hstk : (none : Option Value).toList ++ rest = stk)
    (kk : ∀ (H1 : Heap) (locs1 : List Loc) (ws' : va_W), P ws' → gG Z A s (ws' ++ X) H1 locs1 → W p l e R s m args below meth c H1 locs1 (cells + mc) (slots + ms) Q (F0 m (pc + 3) ls stk)) : W p l e R s m args below meth c H locs cells slots Q (F0 m pc ls st0) := by
  have hts := F.2.2.2.2.1
  exact gg_goE (va_runI (As := As) (rest := rest) ⟨F.1, F.2.1, F.2.2.1, F.2.2.2.1, hts⟩ (hM H.size) ⟨callB_of n hts hY.good rfl hrm.1 hrm.2 (hts _ hY.2.1) (hts _ hlink) ⟨hY.2.2.1.1, hY.2.2.1.2, hY.2.2.2⟩ hR, hV.1, hts _ hV.2⟩ ⟨gB_blind, G.left.pre F _⟩ rfl hn hls hst (lv_room hcat) hdg hRc) G hstk kk
theorem ge_callIN (F : gF Z p m s args meth c cc nL own ret) (G : gG Z A s (ws ++ X) H locs) {y : MethodName} {host : String} {bytes : ByteArray} {maxL n mc ms : Nat} {rm : Room} {b : Nat} {As : List Value} {st0 stk : List Value} {index : Nat}
    (hM : gE Z l y bytes maxL none rm (.ref b :: As) ws none P mc ms) (hY : gY y bytes maxL none n) (hV : y.name = "<init>" ∧ Cond.instanceMethod y ∈ gW) (hlink : Cond.methodLinkNest own index y host ∈ nW)
    (hn : As.length = n) (hrm : rm.cells = mc ∧ rm.slots = ms) (hR : rm.frames + 1 ≤ R.frames ∧ 8 + (maxL + 11) + rm.locals ≤ R.locals) (hst : st0 = As.reverse ++ .ref b :: rest) (hcat : (rest.map fun v => v.category).sum ≤ 8) (hls : ls.size = nL) (hRc : cells + mc ≤ R.cells ∧ slots + ms ≤ R.slots) (hdg : decode cc pc = .ok (.invokespecial index, 3)) (hstk : (none : Option Value).toList ++ rest = stk)
    (kk : ∀ (H1 : Heap) (locs1 : List Loc) (ws' : va_W), P ws' → gG Z A s (ws' ++ X) H1 locs1 → W p l e R s m args below meth c H1 locs1 (cells + mc) (slots + ms) Q (F0 m (pc + 3) ls stk)) : W p l e R s m args below meth c H locs cells slots Q (F0 m pc ls st0) := by
  have hts := F.2.2.2.2.1
  exact gg_goE (va_runIN (As := As) (rest := rest) ⟨F.1, F.2.1, F.2.2.1, F.2.2.2.1, hts⟩ (hM H.size) ⟨va_cnB n hts hY.good rfl hrm.1 hrm.2 (F.2.2.2.2.2.1.2 _ hlink) (hts _ hY.2.1) ⟨hY.2.2.1.1, hY.2.2.1.2, hY.2.2.2⟩ hR, hV.1, hts _ hV.2⟩ ⟨gB_blind, G.left.pre F _⟩ rfl hn hls hst (lv_room hcat) hdg hRc) G hstk kk
theorem ge_callS (F : gF Z p m s args meth c cc nL own ret) (G : gG Z A s (ws ++ X) H locs) {y : MethodName} {bytes : ByteArray} {maxL n mc ms : Nat} {rt : Option FieldType} {rm : Room} {As : List Value} {v : Option Value} {st0 stk : List Value} {index : Nat}
    (hM : gE Z l y bytes maxL rt rm As ws v P mc ms) (hY : gY y bytes maxL rt n) (hV : Cond.static y ∈ gW) (hlink : Cond.methodLink own index y ∈ gW)
    (hn : As.length = n) (hrm : rm.cells = mc ∧ rm.slots = ms) (hR : rm.frames + 1 ≤ R.frames ∧ 8 + (maxL + 11) + rm.locals ≤ R.locals) (hst : st0 = As.reverse ++ rest) (hcat : (rest.map fun v => v.category).sum ≤ 8) (hls : ls.size = nL) (hRc : cells + mc ≤ R.cells ∧ slots + ms ≤ R.slots) (hdg : decode cc pc = .ok (.invokestatic index, 3)) (hstk : v.toList ++ rest = stk)
    (kk : ∀ (H1 : Heap) (locs1 : List Loc) (ws' : va_W), P ws' → gG Z A s (ws' ++ X) H1 locs1 → W p l e R s m args below meth c H1 locs1 (cells + mc) (slots + ms) Q (F0 m (pc + 3) ls stk)) : W p l e R s m args below meth c H locs cells slots Q (F0 m pc ls st0) := by
  have hts := F.2.2.2.2.1
  exact gg_goE (va_runS (As := As) (rest := rest) ⟨F.1, F.2.1, F.2.2.1, F.2.2.2.1, hts⟩ (hM H.size) ⟨callB_of n hts hY.good rfl hrm.1 hrm.2 (hts _ hY.2.1) (hts _ hlink) ⟨hY.2.2.1.1, hY.2.2.1.2, hY.2.2.2⟩ hR, hts _ hV⟩ ⟨gB_blind, G.left.pre F _⟩ rfl hn hls hst (lv_room hcat) hdg hRc) G hstk kk
/-- a new object, a new row of ints, a new row of references -/
theorem gg_new (F : gF Z p m s args meth c cc nL own ret) (G : gG Z A s ws H locs) {index N ci : Nat} {C : String} {T : u_T} {ty0 : Nat → FieldType} (hC : gC C T N ty0) (hcl : Cond.classLink own index C ∈ gW) (hinst : Cond.instantiable C N ∈ gW) (hini : Cond.initialized C ∈ gW) (hc : vwCl[ci]? = some (C, T, N)) {fs : List Value} (hfs : ∀ j, j < N → defaultValue (ty0 j) = vp_V fs j) (hcells : cells + 1 ≤ R.cells) (hslots : slots + N ≤ R.slots) (hdg : decode cc pc = .ok (.new index, 3))
    (kk : ∀ (q : Nat) (H1 : Heap), gG Z A s (ws ++ [(q, .inr (ci, fs))]) H1 locs → W p l e R s m args below meth c H1 locs (cells + 1) (slots + N) Q (F0 m (pc + 3) ls (.ref q :: rest))) : W p l e R s m args below meth c H locs cells slots Q (F0 m pc ls rest) :=
  va_new F.1 F.2.1 F.2.2.2.2.1 hC.1 ty0 hC.2.1 F.2.2.2.1 (F.2.2.2.2.1 _ hcl) (F.2.2.2.2.1 _ hinst) (F.2.2.2.2.1 _ hini) F.2.2.2.2.2.1.1 G.1 G.2.1 G.2.2.1 G.2.2.2 hc hfs hcells hslots hdg (fun q H1 h1 h2 h3 => kk q H1 ⟨h1, h2, h3, G.2.2.2⟩)
theorem gg_newI (F : gF Z p m s args meth c cc nL own ret) (G : gG Z A s ws H locs) {n : Int32} {N : Nat} (hn : ¬ n < 0) (hN : n.toNatClampNeg = N) (hbytes : N * 4 ≤ 536870912) (hcells : cells + 1 ≤ R.cells) (hslots : slots + N ≤ R.slots) (hdg : decode cc pc = .ok (.newarray .int, 2))
    (kk : ∀ (q : Nat) (H1 : Heap), gG Z A s (ws ++ [(q, .inl (Z.2.1, N, .inl (fun _ => 0)))]) H1 locs → W p l e R s m args below meth c H1 locs (cells + 1) (slots + N) Q (F0 m (pc + 2) ls (.ref q :: rest))) : W p l e R s m args below meth c H locs cells slots Q (F0 m pc ls (.int n :: rest)) := by
  refine va_newa (atype := .int) F.1 F.2.1 (F.2.2.2.2.1 _ w1_101) (ty := .int) rfl F.2.2.2.2.2.1.1 G.1 G.2.1 G.2.2.1 G.2.2.2 (a0 := (N, .inl (fun _ => 0))) (fun _ => rfl) hn hN hbytes hcells hslots hdg (fun q cA H1 h0 h1 h2 h3 => ?_)
  have e1 : s.vm.findClass ("[" ++ FieldType.int.toString) = some cA := (h0.2 3 (cA, .int) rfl).2
  have e2 : s.vm.findClass ("[" ++ FieldType.int.toString) = some Z.2.1 := (h0.2 0 (Z.2.1, .int) rfl).2
  have e3 : cA = Z.2.1 := Option.some.inj (e1.symm.trans e2)
  subst e3
  exact kk q H1 ⟨h1, h2, h3, G.2.2.2⟩
theorem gg_newR (F : gF Z p m s args meth c cc nL own ret) (G : gG Z A s ws H locs) {index t0 N : Nat} {C : String} {cA : ClassId} {n : Int32} (hcl : Cond.classLink own index C ∈ gW) (hov : Cond.arrayOver (.object C) ∈ nW) (ht : (gT Z)[t0]? = some (cA, .object C)) (hn : ¬ n < 0) (hN : n.toNatClampNeg = N) (hbytes : N * 4 ≤ 536870912) (hcells : cells + 1 ≤ R.cells) (hslots : slots + N ≤ R.slots) (hdg : decode cc pc = .ok (.anewarray index, 3))
    (kk : ∀ (q : Nat) (H1 : Heap), gG Z A s (ws ++ [(q, .inl (cA, N, .inr (.inr (.inr (.inr (fun _ => none))))))]) H1 locs → W p l e R s m args below meth c H1 locs (cells + 1) (slots + N) Q (F0 m (pc + 3) ls (.ref q :: rest))) : W p l e R s m args below meth c H locs cells slots Q (F0 m pc ls (.int n :: rest)) := by
  refine va_newq F.1 F.2.1 F.2.2.2.1 (F.2.2.2.2.1 _ hcl) (F.2.2.2.2.2.1.2 _ hov) F.2.2.2.2.2.1.1 G.1 G.2.1 G.2.2.1 G.2.2.2 hn hN hbytes hcells hslots hdg (fun q cB H1 h0 h1 h2 h3 => ?_)
  obtain ⟨kA, comp, -, -, -, e1⟩ := (h0.2 3 (cB, .object C) rfl).2
  obtain ⟨kB, comp2, -, -, -, e2⟩ := (F.2.2.2.2.2.1.1.2 t0 (cA, .object C) ht).2
  have e3 : cB = cA := Option.some.inj (e1.symm.trans e2)
  subst e3
  exact kk q H1 ⟨h1, h2, h3, G.2.2.2⟩
theorem gg_putF (F : gF Z p m s args meth c cc nL own ret) (G : gG Z A s ws H locs) {a ci q0 index N : Nat} (k : Nat) {fs : List Value} {C : String} {T : u_T} {ty0 : Nat → FieldType} {v : Value} (hC : gC C T N ty0) (hc : vwCl[ci]? = some (C, T, N)) (he : ws[q0]? = some (a, .inr (ci, fs))) (hk : k < N) (hlink : Cond.fieldLink own index (T k).1 (T k).2.1 (T k).2.2.1 ∈ gW) (hfin : (T k).2.2.2 = true) (hin : meth.name = "<init>") (hdecl : (T k).1 = own) (hn : narrow (ty0 k) v = v) (hfit : fits (ty0 k) v = true) (hl : k < fs.length) (hw : ws.set q0 (a, .inr (ci, fs.set k v)) = ws') (hdg : decode cc pc = .ok (.putfield index, 3))
    (kk : ∀ (H1 : Heap) (locs1 : List Loc), gG Z A s ws' H1 locs1 → W p l e R s m args below meth c H1 locs1 cells slots Q (F0 m (pc + 3) ls rest)) : W p l e R s m args below meth c H locs cells slots Q (F0 m pc ls (v :: .ref a :: rest)) :=
  va_putF F.1 F.2.1 F.2.2.2.2.1 hC.1 ty0 hC.2.1 hC.2.2 F.2.2.2.1 F.2.2.2.2.2.1.1 G.1 G.2.1 G.2.2.1 q0 he hc k hk (F.2.2.2.2.1 _ hlink) (fun _ h => h) hfin hin hdecl (hC.2.1 k hk) hn hfit hl hdg (fun H1 locs1 h1 h2 h3 => kk H1 locs1 ⟨hw ▸ h1, hw ▸ h2, h3, G.2.2.2⟩)
theorem ge_vret (F : gF Z p m s args meth c cc nL own none) (G : gG Z A s ws H locs) (hw : P ws) (hdg : decode cc pc = .ok (.return_, 1)) : W p l e R s m args below meth c H locs cells slots (MQ below (gQE Z A none P) args s cells slots A) (F0 m pc ls []) := by
  have hlocks := F.2.2.2.2.2.2.2
  exact W.vret F.1 F.2.1 F.2.2.2.2.2.2.1 (fun t ht hW => ⟨⟨rfl, ws, hw, by rw [ht]; exact G.1, G.2.1⟩, G.2.2.1.F ht⟩) G.2.2.1.2.2 hdg
theorem ge_iret {ty : FieldType} (F : gF Z p m s args meth c cc nL own (some ty)) (G : gG Z A s ws H locs) {x v : Int32} (hn : narrow ty (.int x) = .int x) (hv : x = v) (hw : P ws) (hdg : decode cc pc = .ok (.ireturn, 1)) : W p l e R s m args below meth c H locs cells slots (MQ below (gQE Z A (some (.int v)) P) args s cells slots A) (F0 m pc ls [.int x]) := by
  subst hv
  have hlocks := F.2.2.2.2.2.2.2
  exact W.zret F.1 F.2.1 F.2.2.2.2.2.2.1 hn (fun t ht hW => ⟨⟨rfl, ws, hw, by rw [ht]; exact G.1, G.2.1⟩, G.2.2.1.F ht⟩) G.2.2.1.2.2 hdg
end GROWS26
