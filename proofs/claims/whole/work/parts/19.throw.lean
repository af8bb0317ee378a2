/-! methods that throw: what a throw needs of the tables and the heap (xK, xZ), the contract gX, its rows -/
abbrev xNm : List String := ["java/lang/RuntimeException", "java/lang/Exception"]
abbrev xIA : String := "java/lang/IllegalArgumentException"
abbrev xIS : String := "java/lang/IllegalStateException"
abbrev xIO : String := "java/lang/IndexOutOfBoundsException"
def xB : List Cond := ((vx_atS RX6 34 xIA xNm) ++ (vx_atS RX6 47 xIS xNm) ++ (vx_atS RX6 209 xIO xNm)).filter (fun w => !goodWord w)
theorem xB_ok : ∀ w ∈ xB, w.onTables = true ∧ w.keepsFace = true := by
  have h : xB.all (fun w => w.onTables && w.keepsFace) = true := by decide +kernel
  intro w hw
  have h1 := List.all_eq_true.mp h w hw
  simpa using h1
def xTx : List (Nat × String) := [(32, "no such frequency, power or distance"), (37, "no such hours or phase"), (45, "there is no room for a station"), (57, "no such coil or aerial"), (62, "there is no room for a member"), (218, "no such member"), (72, "no such place of the dial"), (84, "no such coil"), (213, "no such station"), (207, "no such number"), (142, "the line is confirmed"), (148, "a letter of the line is on its way"), (158, "there are too many letters on their way"), (163, "no such number of hours"), (183, "both stations are the same")]
def xK (U : State) : Prop := (∀ w ∈ xB, w.before #[] U = true) ∧ ∀ q ∈ xTx, ∃ sa, vk_R RX6 q.1 q.2 sa U
theorem xK.warm {s U : State} (hW : s.WarmedH U.vm) (h : xK s) : xK U := by
  refine ⟨fun w hw => ?_, fun q hq => ?_⟩
  · have h1 : w.before #[] (s.setVm U.vm) = true := Cond.before_shiftedFace (State.Shifted.of_warmed hW) w (xB_ok w hw).2 (h.1 w hw)
    exact va_tabs (xB_ok w hw).1 (rfl : (s.setVm U.vm).vm = U.vm) h1
  · obtain ⟨sa, hsa⟩ := h.2 q hq
    exact ⟨sa, vk_R.warm hW hsa⟩
theorem xK.same {s U : State} (hv : s.vm = U.vm) (h : xK s) : xK U := by
  refine ⟨fun w hw => va_tabs (xB_ok w hw).1 hv (h.1 w hw), fun q hq => ?_⟩
  obtain ⟨sa, hsa⟩ := h.2 q hq
  exact ⟨sa, vk_R.same hv.symm hsa⟩
def xZ (A : Nat → Prop) (U : State) (H : Heap) : Prop := vx_Zq Bundle.tN "UNASSIGNED_STACK" Bundle.steD A U H ∧ vx_Zq Bundle.tN "SUPPRESSED_SENTINEL" Bundle.listD A U H
theorem xZ.kept {A : Nat → Prop} {U : State} {H H1 : Heap} (h : xZ A U H) (hq : ∀ a : Nat, a < H.size → ¬ A a → H1[a]? = H[a]?) : xZ A U H1 := ⟨h.1.kept hq, h.2.kept hq⟩
theorem xZ.narrow {A B : Nat → Prop} {U : State} {H : Heap} (h : xZ A U H) (hAB : ∀ q, B q → A q) : xZ B U H := ⟨h.1.narrow hAB, h.2.narrow hAB⟩
theorem xZ.moved {A : Nat → Prop} {u U : State} {H : Heap} (hvm : u.vm.Alike U.vm) (h : xZ A u H) : xZ A U H := ⟨h.1.moved hvm, h.2.moved hvm⟩
def gBX (Z : gZ) (ws : va_W) (sz : Nat) (U : State) : Prop := gB Z ws sz U ∧ xK U ∧ xZ (va_A ws sz) U U.heap
def gXC (Z : gZ) (E : String) (A : Nat → Prop) (ws : va_W) : String → State → State → Prop := fun E' st t => E' = E ∧ va_P Z.1 vwCl ws t.heap ∧ va_D A ws ∧ va_F A st t
def gNo : Array Value → State → Outcome → State → Prop := fun _ _ _ _ => False
/-- from any heap that holds ws: the method throws an E, the heap still holds ws -/
def gX (Z : gZ) (l : Launch) (y : MethodName) (bytes : ByteArray) (maxL : Nat) (ret : Option FieldType) (rm : Room) (av : List Value) (ws : va_W) (E : String) (mc ms : Nat) : Prop := ∀ sz : Nat, vx_Met l y (Cond.code y bytes maxL ret :: gW) rm (va_Pc av (gBX Z ws sz)) gNo (gXC Z E (va_A ws sz) ws) mc ms (va_A ws sz)
theorem gBX_blind {Z : gZ} {av : List Value} {ws : va_W} {sz : Nat} : FrameBlind (va_Pc av (gBX Z ws sz)) := fun a U g mk h =>
  ⟨h.1, ⟨h.2.1.1, h.2.1.2.1, h.2.1.2.2.1.call, h.2.1.2.2.2⟩, xK.same (s := U) (U := U.calling g mk a) rfl h.2.2.1, xZ.moved (u := U) (U := U.calling g mk a) (Vm.Alike.refl U.vm) h.2.2.2⟩
theorem gX_of {Z : gZ} {l : Launch} {y : MethodName} {bytes : ByteArray} {maxL : Nat} {ret : Option FieldType} {rm : Room} {av : List Value} {ws : va_W} {E : String} {mc ms : Nat} (hy : plainName y.cls = true) (hav : (lg_sl av).length ≤ maxL)
    (body : ∀ (p : Program) (e : Env) (s : State) (m : MethodId) (args : Array Value) (below : List Frame) (meth : Method) (c : Code) (A : Nat → Prop), gF Z p m s args meth c bytes maxL y.cls ret → (∀ x ∈ c.exceptionTable.toList, False) → xK s → xZ A s s.heap → gG Z A s ws s.heap [] → ∀ ls : Array Slot, lv_has ls maxL (lv_args 0 av) →
      W p l e rm s m args below meth c s.heap [] 0 0 (vx_MQ below gNo (gXC Z E A ws) args s mc ms A) (F0 m 0 ls [])) : gX Z l y bytes maxL ret rm av ws E mc ms := by
  intro sz
  refine vx_ofW (cc := bytes) (maxL := maxL) (ret := ret) hy rfl ?_
  intro p e s m args below meth c s₁ B hml htab hv
  obtain ⟨rfl, ⟨hsz, hP, hK, hD0⟩, hxK, hxZ⟩ := hv
  have hts := atoms_spec (ws := Cond.code y bytes maxL ret :: gW) B.pre
  subst hsz
  rw [lg_entry_eq]
  exact body p e s m _ below meth c (va_A ws s.heap.size) ⟨B.exec, B.bytes, hml, findClass_of_methodNamed B.named, fun w h => hts w (List.mem_cons_of_mem _ h), hK, B.returns, B.notSynchronized⟩ htab hxK hxZ ⟨hP, hD0.self, va_S.rf, fun q h => Or.inr h⟩ _ (lv_entry av hav)
/-- what a throw of E needs of the tables -/
def xE (E : String) (ik ic : Nat) : Prop := Cond.classLink RX6 ik E ∈ gW ∧ Cond.initialized E ∈ gW ∧ (∀ w ∈ (vx_atS RX6 ic E xNm).filter goodWord, w ∈ gW) ∧ (∀ w ∈ (vx_atS RX6 ic E xNm).filter (fun w => !goodWord w), w ∈ xB) ∧ (∀ w ∈ Cond.classLink RX6 ik E :: Cond.initialized E :: vx_atS RX6 ic E xNm, vx_ot w = true) ∧ Bundle.fit E = true ∧ ∀ n ∈ xNm, Bundle.fit n = true
theorem xE_sub {L : List Cond} (h : ∀ w ∈ L.filter goodWord, w ∈ lw_tbl) : ∀ w ∈ L.filter goodWord, w ∈ gW := fun w hw => List.mem_filter.mpr ⟨h w hw, (List.mem_filter.mp hw).2⟩
theorem xE_all {L : List Cond} (h : L.all vx_ot = true) : ∀ w ∈ L, vx_ot w = true := List.all_eq_true.mp h
theorem xE_fit : ∀ n ∈ xNm, Bundle.fit n = true := by decide +kernel
theorem xE_IA : xE xIA 30 34 := ⟨w2_52, w1_13, xE_sub (by decide +kernel), fun w hw => List.mem_filter.mpr ⟨List.mem_append_left _ (List.mem_append_left _ (List.mem_filter.mp hw).1), (List.mem_filter.mp hw).2⟩, xE_all (by decide +kernel), by decide +kernel, xE_fit⟩
theorem xE_IS : xE xIS 43 47 := ⟨w2_121, w1_14, xE_sub (by decide +kernel), fun w hw => List.mem_filter.mpr ⟨List.mem_append_left _ (List.mem_append_right _ (List.mem_filter.mp hw).1), (List.mem_filter.mp hw).2⟩, xE_all (by decide +kernel), by decide +kernel, xE_fit⟩
theorem xE_IO : xE xIO 205 209 := ⟨w2_215, w1_17, xE_sub (by decide +kernel), fun w hw => List.mem_filter.mpr ⟨List.mem_append_right _ (List.mem_filter.mp hw).1, (List.mem_filter.mp hw).2⟩, xE_all (by decide +kernel), by decide +kernel, xE_fit⟩
section XROWS
variable {p : Program} {l : Launch} {e : Env} {R : Room} {s : State} {m : MethodId} {args : Array Value} {below : List Frame} {meth : Method} {c : Code} {H : Heap} {locs : List Loc} {cells slots : Nat} {Q : State → Prop}
variable {Z : gZ} {A : Nat → Prop} {ws ws' : va_W} {cc : ByteArray} {nL pc : Nat} {own : String} {ret : Option FieldType} {ls : Array Slot} {rest : List Value}
theorem gG.xpost {E : String} {H1 : Heap} (G : gG Z A s ws H locs) (hz : H.size ≤ H1.size) (hk : ∀ q : Nat, q < H.size → H1[q]? = H[q]?) {t : State} (ht : t.heap = H1) : gXC Z E A ws E s t := by
  subst ht
  exact ⟨rfl, G.1.kept (fun k q hq => hk q.1 (G.1 k q hq).lt), G.2.1, Nat.le_trans G.2.2.1.1 hz, fun q h1 h2 => by rw [hk q (Nat.lt_of_lt_of_le h1 G.2.2.1.1)]; exact G.2.2.1.2.1 q h1 h2⟩
/-- 'throw new E(text)' -/
theorem gg_throw (F : gF Z p m s args meth c cc nL RX6 ret) (htab : ∀ x ∈ c.exceptionTable.toList, False) (hxK : xK s) (hxZ : xZ A s s.heap) (G : gG Z A s ws H locs) (hl : l.stackTraces = false) {E text : String} {ik is ic mc ms : Nat} (hE : xE E ik ic) (htx : (is, text) ∈ xTx) (hls : ls.size = nL)
    (d0 : decode cc pc = .ok (.new ik, 3)) (d3 : decode cc (pc + 3) = .ok (.dup, 1)) (d4 : decode cc (pc + 4) = .ok (.ldc is, 2)) (d6 : decode cc (pc + 6) = .ok (.invokespecial ic, 3)) (d9 : decode cc (pc + 9) = .ok (.athrow, 1))
    (hRf : 5 < R.frames) (hRl : (rest.map fun v => v.category).sum + 82 ≤ R.locals) (hRc : cells + 1 ≤ R.cells) (hRs : slots + 6 ≤ R.slots) (hc : cells + 1 ≤ mc) (hs : slots + 6 ≤ ms) :
    W p l e R s m args below meth c H locs cells slots (vx_MQ below gNo (gXC Z E A ws) args s mc ms A) (F0 m pc ls rest) := by
  obtain ⟨sa, hsa⟩ := hxK.2 _ htx
  have hts := F.2.2.2.2.1
  refine vx_throwS (A := A) (names := xNm) F.1 F.2.1 hl F.2.2.2.1 hE.2.2.2.2.2.1 hE.2.2.2.2.2.2 (hts _ hE.1) (hts _ hE.2.1) hsa (vx_hat (B := xB) (fun w hw => hts w (hE.2.2.1 w hw)) hE.2.2.2.1 (fun w hw => va_tabs (xB_ok w hw).1 rfl (hxK.1 w hw))) hE.2.2.2.2.1 hxZ.1 hxZ.2 G.2.2.1 (hls.trans F.2.2.1.symm) d0 d3 d4 d6 d9 (fun x hx => (htab x hx).elim) hRf hRl hRc hRs F.2.2.2.2.2.2.2 ?_ G.2.2.1.2.2 hc hs
  intro t _ hz hk
  exact G.xpost hz hk rfl
/-- a call that throws, in a method that doesn't catch: it throws on -/
theorem gx_go {mc ms : Nat} {A1 : Nat → Prop} {a : Array Value} {E : String} {st0 : List Value} {k1 k2 : Nat} (F : gF Z p m s args meth c cc nL own ret) (htab : ∀ x ∈ c.exceptionTable.toList, False) (hr : vx_Run p l e R s m args below meth c H locs cells slots mc ms (F0 m pc ls st0) rest (gNo a) (gXC Z E A1 ws) A1) (G : gG Z A s ws H locs) (hA1 : ∀ q, A1 q → A q) (hc : cells + mc ≤ k1) (hs : slots + ms ≤ k2) :
    W p l e R s m args below meth c H locs cells slots (vx_MQ below gNo (gXC Z E A ws) args s k1 k2 A) (F0 m pc ls st0) := by
  obtain ⟨hP, hD, hS, hA⟩ := G
  intro T hT X
  rcases hr T hT X with ⟨v, st₀, t, T', L, h0, X', hL, e1, e2, hno, st⟩ | ⟨q, st₀, t, T', L, E', ce, h0, X', hL, e1, e2, ⟨rfl, hp, hd, hF⟩, hce, hcv, hcl, st⟩
  · exact hno.elim
  · obtain ⟨hz, hk⟩ := hF
    rw [h0] at hz hk
    have hS' : va_S A s.heap T'.heap (locs ++ L) := ⟨Nat.le_trans hS.1 (by rw [e1]; exact hz), fun q h1 h2 => by rw [e1, hk q (Nat.lt_of_lt_of_le h1 hS.1) (fun z => h2 (hA1 q z))]; exact hS.2.1 q h1 h2, fun q hq => by
      rcases List.mem_append.mp hq with h | h
      · exact hS.2.2 q h
      · exact hA1 _ (hL q h)⟩
    have hw : vx_W p l e R s m args below meth c T'.heap (locs ++ L) (cells + mc) (slots + ms) (vx_MQ below gNo (gXC Z E' A ws) args s k1 k2 A) (F0 m pc ls rest) q :=
      vx_out (ce := ce) (E := E') (fun x hx => (htab x hx).elim) F.2.2.2.2.2.2.2 (by rw [e1]; exact hce) hcv hcl (fun t2 ht2 _ => ⟨rfl, by rw [ht2, e1]; exact hp, hd.weaken (fun _ q _ h => hA1 q.1 h), by rw [ht2]; exact hS'.1, fun q h1 h2 => by rw [ht2]; exact hS'.2.1 q h1 h2⟩) hS'.2.2 hc hs
    obtain ⟨t2, a1, b1⟩ := hw T' rfl X'
    exact ⟨t2, st.trans a1, b1⟩
theorem gG.preX (F : gF Z p m s args meth c cc nL own ret) (hxK : xK s) (hxZ : xZ A s s.heap) (G : gG Z A s ws H locs) (av : List Value) : ∀ U : State, U.heap = H → s.WarmedH U.vm → va_Pc av (gBX Z ws H.size) av.toArray U := fun U hU hW =>
  ⟨rfl, (G.pre F av U hU hW).2, hxK.warm hW, by rw [hU]; exact ((hxZ.kept (fun q h1 h2 => G.2.2.1.2.1 q h1 h2)).narrow G.free).moved hW.alike⟩
theorem gx_callV (F : gF Z p m s args meth c cc nL own ret) (htab : ∀ x ∈ c.exceptionTable.toList, False) (hxK : xK s) (hxZ : xZ A s s.heap) (G : gG Z A s ws H locs) {y : MethodName} {bytes : ByteArray} {maxL n mc ms k1 k2 : Nat} {rt : Option FieldType} {rm : Room} {b : Nat} {As : List Value} {E : String} {st0 : List Value} {k ci index : Nat} {fs : List Value} {r : vw_C}
    (hM : gX Z l y bytes maxL rt rm (.ref b :: As) ws E mc ms) (hY : gY y bytes maxL rt n) (hV : Cond.instanceMethod y ∈ gW ∧ Cond.selects y.cls y y ∈ gW) (he : ws[k]? = some (b, .inr (ci, fs))) (hc : vwCl[ci]? = some r) (hcl : r.1 = y.cls) (hlink : Cond.methodLink own index y ∈ gW)
    (hn : As.length = n) (hrm : rm.cells = mc ∧ rm.slots = ms) (hR : rm.frames + 1 ≤ R.frames ∧ 8 + (maxL + 11) + rm.locals ≤ R.locals) (hst : st0 = As.reverse ++ .ref b :: rest) (hcat : (rest.map fun v => v.category).sum ≤ 8) (hls : ls.size = nL) (hRc : cells + mc ≤ R.cells ∧ slots + ms ≤ R.slots) (hk : cells + mc ≤ k1 ∧ slots + ms ≤ k2) (hdg : decode cc pc = .ok (.invokevirtual index, 3)) :
    W p l e R s m args below meth c H locs cells slots (vx_MQ below gNo (gXC Z E A ws) args s k1 k2 A) (F0 m pc ls st0) := by
  have hts := F.2.2.2.2.1
  refine gx_go F htab (vx_runV (C := y.cls) (As := As) (rest := rest) ⟨F.1, F.2.1, F.2.2.1, F.2.2.2.1, hts⟩ (hM H.size) ⟨callB_of n hts hY.good rfl hrm.1 hrm.2 (hts _ hY.2.1) (hts _ hlink) ⟨hY.2.2.1.1, hY.2.2.1.2, hY.2.2.2⟩ hR, hts _ hV.1, hts _ hV.2⟩ ⟨gBX_blind, ?_, G.preX F hxK hxZ _⟩ rfl hn hls hst (lv_room hcat) hdg hRc) G G.free hk.1 hk.2
  rw [← hcl]
  exact va_recv F.2.2.2.2.2.1.1 G.1 hc he
theorem gx_callS (F : gF Z p m s args meth c cc nL own ret) (htab : ∀ x ∈ c.exceptionTable.toList, False) (hxK : xK s) (hxZ : xZ A s s.heap) (G : gG Z A s ws H locs) {y : MethodName} {bytes : ByteArray} {maxL n mc ms k1 k2 : Nat} {rt : Option FieldType} {rm : Room} {As : List Value} {E : String} {st0 : List Value} {index : Nat}
    (hM : gX Z l y bytes maxL rt rm As ws E mc ms) (hY : gY y bytes maxL rt n) (hV : Cond.static y ∈ gW) (hlink : Cond.methodLink own index y ∈ gW)
    (hn : As.length = n) (hrm : rm.cells = mc ∧ rm.slots = ms) (hR : rm.frames + 1 ≤ R.frames ∧ 8 + (maxL + 11) + rm.locals ≤ R.locals) (hst : st0 = As.reverse ++ rest) (hcat : (rest.map fun v => v.category).sum ≤ 8) (hls : ls.size = nL) (hRc : cells + mc ≤ R.cells ∧ slots + ms ≤ R.slots) (hk : cells + mc ≤ k1 ∧ slots + ms ≤ k2) (hdg : decode cc pc = .ok (.invokestatic index, 3)) :
    W p l e R s m args below meth c H locs cells slots (vx_MQ below gNo (gXC Z E A ws) args s k1 k2 A) (F0 m pc ls st0) := by
  have hts := F.2.2.2.2.1
  exact gx_go F htab (vx_runS (As := As) (rest := rest) ⟨F.1, F.2.1, F.2.2.1, F.2.2.2.1, hts⟩ (hM H.size) ⟨callB_of n hts hY.good rfl hrm.1 hrm.2 (hts _ hY.2.1) (hts _ hlink) ⟨hY.2.2.1.1, hY.2.2.1.2, hY.2.2.2⟩ hR, hts _ hV⟩ ⟨gBX_blind, G.preX F hxK hxZ _⟩ rfl hn hls hst (lv_room hcat) hdg hRc) G G.free hk.1 hk.2
end XROWS
