/-! the walk's own rows: a setting gF, a world gG, a contract gM; calls and field rows over them -/
abbrev St : Type := Nat → Nat → Nat → Int32
def mu (M : St) (f i j : Nat) (v : Int32) : St := fun g => if g = f then (fun a => if a = i then upd (M g a) j v else M g a) else M g
abbrev gZ : Type := va_G × ClassId × ClassId × ClassId
abbrev gT (Z : gZ) : List (ClassId × FieldType) := [(Z.2.1, .int), (Z.2.2.1, .object RX3), (Z.2.2.2, .object RX4)]
def gK (Z : gZ) (U : State) : Prop := va_K Z.1 vwCl (gT Z) U ∧ ∀ w ∈ nW, va_Nw w U
theorem g_nw {s U : State} {w : Cond} (hW : s.WarmedH U.vm) (hn : g_isN w = true) (h : va_Nw w s) : va_Nw w U := by
  cases w <;> first | exact va_Nw.warmF hW h | exact va_Nw.warmM hW h | exact va_Nw.warmC hW h | (simp [g_isN] at hn; done) | (rename_i t; cases t <;> first | exact va_AO.moved hW.alike h | (simp [g_isN] at hn; done))
theorem g_nwS {s U : State} {w : Cond} (hv : s.vm = U.vm) (hn : g_isN w = true) (h : va_Nw w s) : va_Nw w U := by
  cases w <;> first | exact va_Nw.same rfl hv h | (simp [g_isN] at hn; done) | (rename_i t; cases t <;> first | exact va_AO.moved (hv ▸ Vm.Alike.refl s.vm) h | (simp [g_isN] at hn; done))
theorem gK.warm {Z : gZ} {s U : State} (hW : s.WarmedH U.vm) (h : gK Z s) : gK Z U := ⟨va_K.moved hW.alike h.1, fun w hw => g_nw hW (nW_isN w hw) (h.2 w hw)⟩
theorem gK.call {Z : gZ} {U : State} {g : JFrame} {mk : MethodId} {a : Array Value} (h : gK Z U) : gK Z (U.calling g mk a) := ⟨va_K.moved (u := U) (U := U.calling g mk a) (Vm.Alike.refl U.vm) h.1, fun w hw => g_nwS (s := U) (U := U.calling g mk a) rfl (nW_isN w hw) (h.2 w hw)⟩
def gB (Z : gZ) (ws : va_W) (sz : Nat) (U : State) : Prop := U.heap.size = sz ∧ va_P Z.1 vwCl ws U.heap ∧ gK Z U ∧ va_D (fun _ => True) ws
def gQ (Z : gZ) (A : Nat → Prop) (v : Option Value) (ws : va_W) : Array Value → State → Outcome → State → Prop := fun _ st oc t => (oc = .returned v ∧ va_P Z.1 vwCl ws t.heap ∧ va_D A ws) ∧ va_F A st t
/-- from any heap that holds ws: the method returns v, the heap holds ws', nothing else changed; mc cells of ms slots are new -/
def gM (Z : gZ) (l : Launch) (y : MethodName) (bytes : ByteArray) (maxL : Nat) (ret : Option FieldType) (rm : Room) (av : List Value) (ws : va_W) (v : Option Value) (ws' : va_W) (mc ms : Nat) : Prop := ∀ sz : Nat, Met l y (Cond.code y bytes maxL ret :: gW) rm (va_Pc av (gB Z ws sz)) (gQ Z (va_A ws sz) v ws') mc ms (va_A ws sz)
theorem gB_blind {Z : gZ} {av : List Value} {ws : va_W} {sz : Nat} : FrameBlind (va_Pc av (gB Z ws sz)) := fun _ _ _ _ h => ⟨h.1, h.2.1, h.2.2.1, h.2.2.2.1.call, h.2.2.2.2⟩
def gF (Z : gZ) (p : Program) (m : MethodId) (s : State) (args : Array Value) (meth : Method) (c : Code) (cc : ByteArray) (nL : Nat) (own : String) (ret : Option FieldType) : Prop :=
  p.tables.exec = Jvm.exec ∧ c.code = cc ∧ c.maxLocals = nL ∧ s.vm.findClass own = some m.cls ∧ (∀ w ∈ gW, w.before args s = true) ∧ gK Z s ∧ meth.sig.returnType = ret ∧ meth.locks = false
def gG (Z : gZ) (A : Nat → Prop) (s : State) (ws : va_W) (H : Heap) (locs : List Loc) : Prop := va_P Z.1 vwCl ws H ∧ va_D A ws ∧ va_S A s.heap H locs ∧ ∀ q : Nat, s.heap.size ≤ q → A q
theorem gM_of {Z : gZ} {l : Launch} {y : MethodName} {bytes : ByteArray} {maxL : Nat} {ret : Option FieldType} {rm : Room} {av : List Value} {ws : va_W} {v : Option Value} {ws' : va_W} {mc ms : Nat} (hy : plainName y.cls = true) (hav : (lg_sl av).length ≤ maxL)
    (body : ∀ (p : Program) (e : Env) (s : State) (m : MethodId) (args : Array Value) (below : List Frame) (meth : Method) (c : Code) (A : Nat → Prop), gF Z p m s args meth c bytes maxL y.cls ret → meth.name = y.name → gG Z A s ws s.heap [] → ∀ ls : Array Slot, lv_has ls maxL (lv_args 0 av) →
      W p l e rm s m args below meth c s.heap [] 0 0 (MQ below (gQ Z A v ws') args s mc ms A) (F0 m 0 ls [])) : gM Z l y bytes maxL ret rm av ws v ws' mc ms := by
  intro sz
  refine Met.ofW (cc := bytes) (maxL := maxL) (ret := ret) hy rfl ?_
  intro p e s m args below meth c s₁ B hml hv
  obtain ⟨rfl, hsz, hP, hK, hD0⟩ := hv
  have hts := atoms_spec (ws := Cond.code y bytes maxL ret :: gW) B.pre
  subst hsz
  rw [lg_entry_eq]
  exact body p e s m _ below meth c (va_A ws s.heap.size) ⟨B.exec, B.bytes, hml, findClass_of_methodNamed B.named, fun w h => hts w (List.mem_cons_of_mem _ h), hK, B.returns, B.notSynchronized⟩ (name_of_methodNamed B.named B.method).1 ⟨hP, hD0.self, va_S.rf, fun q h => Or.inr h⟩ _ (lv_entry av hav)
/-- what a call needs of the tables, by method -/
def gY (y : MethodName) (bytes : ByteArray) (maxL : Nat) (ret : Option FieldType) (n : Nat) : Prop :=
  Cond.code y bytes maxL ret ∈ gW ∧ Cond.initialized y.cls ∈ gW ∧ (y.cls ≠ "java/lang/invoke/MethodHandle" ∧ y.cls ≠ "java/lang/invoke/VarHandle") ∧ (parseMethodDescriptor y.desc).map (fun d => d.parameters.length) = some n
theorem gY.good {y : MethodName} {bytes : ByteArray} {maxL n : Nat} {ret : Option FieldType} (h : gY y bytes maxL ret n) : GoodIn gW (Cond.code y bytes maxL ret :: gW) := fun w hw => (List.mem_cons.mp hw).elim (fun e => by rw [e]; exact ⟨h.1, gW_good _ h.1⟩) (fun hw => ⟨hw, gW_good _ hw⟩)
/-- a class's fields, as the tables have them -/
def gC (C : String) (T : u_T) (N : Nat) (ty0 : Nat → FieldType) : Prop := (∀ w ∈ u_ws C T N, w ∈ gW) ∧ (∀ k, k < N → parseFieldDescriptor (T k).2.2.1 = some (ty0 k)) ∧ (∀ a, a < N → ∀ b, b < N → a ≠ b → (T a).2.1 ≠ (T b).2.1)
theorem gcX0 : gC RX0 TX0 7 tyX0 := ⟨hinX0, tyX0_ok, nmX0⟩
theorem gcX1 : gC RX1 TX1 6 tyX1 := ⟨hinX1, tyX1_ok, nmX1⟩
theorem gcX2 : gC RX2 TX2 4 tyX2 := ⟨hinX2, tyX2_ok, nmX2⟩
theorem gcX3 : gC RX3 TX3 3 tyX3 := ⟨hinX3, tyX3_ok, nmX3⟩
theorem gcX4 : gC RX4 TX4 6 tyX4 := ⟨hinX4, tyX4_ok, nmX4⟩
theorem gcX5 : gC RX5 TX5 3 tyX5 := ⟨hinX5, tyX5_ok, nmX5⟩
theorem gcX6 : gC RX6 TX6 3 tyX6 := ⟨hinX6, tyX6_ok, nmX6⟩
theorem gcX7 : gC RX7 TX7 9 tyX7 := ⟨hinX7, tyX7_ok, nmX7⟩
theorem gcX8 : gC RX8 TX8 10 tyX8 := ⟨hinX8, tyX8_ok, nmX8⟩
section GROWS
variable {p : Program} {l : Launch} {e : Env} {R : Room} {s : State} {m : MethodId} {args : Array Value} {below : List Frame} {meth : Method} {c : Code} {H : Heap} {locs : List Loc} {cells slots : Nat} {Q : State → Prop}
variable {Z : gZ} {A : Nat → Prop} {ws ws' : va_W} {cc : ByteArray} {nL pc : Nat} {own : String} {ret : Option FieldType} {ls : Array Slot} {rest : List Value}
theorem gG.free (G : gG Z A s ws H locs) : ∀ q, va_A ws H.size q → A q := fun q h => h.elim (fun ⟨k, _, h⟩ => G.2.1.2 k _ h) (fun h => G.2.2.2 q (Nat.le_trans G.2.2.1.1 h))
theorem gG.pre (F : gF Z p m s args meth c cc nL own ret) (G : gG Z A s ws H locs) (av : List Value) : ∀ U : State, U.heap = H → s.WarmedH U.vm → va_Pc av (gB Z ws H.size) av.toArray U := fun U hU hW => ⟨rfl, by rw [hU], by rw [hU]; exact G.1, F.2.2.2.2.2.1.warm hW, G.2.1.weaken (fun _ _ _ _ => trivial)⟩
theorem gg_go {mc ms : Nat} {A1 : Nat → Prop} {a : Array Value} {v : Option Value} {st0 stk : List Value} (hr : va_Run p l e R s m args below meth c H locs cells slots mc ms (F0 m pc ls st0) rest (gQ Z A1 v ws' a) A1) (G : gG Z A s ws H locs) (hA1 : ∀ q, A1 q → A q) (hstk : v.toList ++ rest = stk)
    (kk : ∀ (H1 : Heap) (locs1 : List Loc), gG Z A s ws' H1 locs1 → W p l e R s m args below meth c H1 locs1 (cells + mc) (slots + ms) Q (F0 m (pc + 3) ls stk)) : W p l e R s m args below meth c H locs cells slots Q (F0 m pc ls st0) := by
  obtain ⟨hP, hD, hS, hA⟩ := G
  intro T hT X
  obtain ⟨v', st₀, t, T', L, h0, X', hL, e1, e2, ⟨⟨hv, hp, hd⟩, hz, hk⟩, st⟩ := hr T hT X
  cases hv
  subst hstk
  rw [h0] at hz hk
  obtain ⟨t2, a1, b1⟩ := kk T'.heap (locs ++ L) ⟨by rw [e1]; exact hp, hd.weaken (fun _ q _ h => hA1 q.1 h), ⟨Nat.le_trans hS.1 (by rw [e1]; exact hz), fun q h1 h2 => by rw [e1, hk q (Nat.lt_of_lt_of_le h1 hS.1) (fun z => h2 (hA1 q z))]; exact hS.2.1 q h1 h2, fun q hq => by
      rcases List.mem_append.mp hq with h | h
      · exact hS.2.2 q h
      · exact hA1 _ (hL q h)⟩, hA⟩ T' rfl X'
  exact ⟨t2, st t2 a1, b1⟩
theorem gg_callV (F : gF Z p m s args meth c cc nL own ret) (G : gG Z A s ws H locs) {y : MethodName} {bytes : ByteArray} {maxL n mc ms : Nat} {rt : Option FieldType} {rm : Room} {b : Nat} {As : List Value} {v : Option Value} {st0 stk : List Value} {k ci index : Nat} {fs : List Value} {r : vw_C}
    (hM : gM Z l y bytes maxL rt rm (.ref b :: As) ws v ws' mc ms) (hY : gY y bytes maxL rt n) (hV : Cond.instanceMethod y ∈ gW ∧ Cond.selects y.cls y y ∈ gW) (he : ws[k]? = some (b, .inr (ci, fs))) (hc : vwCl[ci]? = some r) (hcl : r.1 = y.cls) (hlink : Cond.methodLink own index y ∈ gW)
    (hn : As.length = n) (hrm : rm.cells = mc ∧ rm.slots = ms) (hR : rm.frames + 1 ≤ R.frames ∧ 8 + (maxL + 11) + rm.locals ≤ R.locals) (hst : st0 = As.reverse ++ .ref b :: rest) (hcat : (rest.map fun v => v.category).sum ≤ 8) (hls : ls.size = nL) (hRc : cells + mc ≤ R.cells ∧ slots + ms ≤ R.slots) (hdg : decode cc pc = .ok (.invokevirtual index, 3)) (hstk : v.toList ++ rest = stk)
    (kk : ∀ (H1 : Heap) (locs1 : List Loc), gG Z A s ws' H1 locs1 → W p l e R s m args below meth c H1 locs1 (cells + mc) (slots + ms) Q (F0 m (pc + 3) ls stk)) : W p l e R s m args below meth c H locs cells slots Q (F0 m pc ls st0) := by
  have hts := F.2.2.2.2.1
  refine gg_go (va_runV (C := y.cls) (As := As) (rest := rest) ⟨F.1, F.2.1, F.2.2.1, F.2.2.2.1, hts⟩ (hM H.size) ⟨callB_of n hts hY.good rfl hrm.1 hrm.2 (hts _ hY.2.1) (hts _ hlink) ⟨hY.2.2.1.1, hY.2.2.1.2, hY.2.2.2⟩ hR, hts _ hV.1, hts _ hV.2⟩ ⟨gB_blind, ?_, G.pre F _⟩ rfl hn hls hst (lv_room hcat) hdg hRc) G G.free hstk kk
  rw [← hcl]
  exact va_recv F.2.2.2.2.2.1.1 G.1 hc he
theorem gg_callVN (F : gF Z p m s args meth c cc nL own ret) (G : gG Z A s ws H locs) {y : MethodName} {host : String} {bytes : ByteArray} {maxL n mc ms : Nat} {rt : Option FieldType} {rm : Room} {b : Nat} {As : List Value} {v : Option Value} {st0 stk : List Value} {k ci index : Nat} {fs : List Value} {r : vw_C}
    (hM : gM Z l y bytes maxL rt rm (.ref b :: As) ws v ws' mc ms) (hY : gY y bytes maxL rt n) (hV : Cond.instanceMethod y ∈ gW ∧ Cond.selects y.cls y y ∈ gW) (he : ws[k]? = some (b, .inr (ci, fs))) (hc : vwCl[ci]? = some r) (hcl : r.1 = y.cls) (hlink : Cond.methodLinkNest own index y host ∈ nW)
    (hn : As.length = n) (hrm : rm.cells = mc ∧ rm.slots = ms) (hR : rm.frames + 1 ≤ R.frames ∧ 8 + (maxL + 11) + rm.locals ≤ R.locals) (hst : st0 = As.reverse ++ .ref b :: rest) (hcat : (rest.map fun v => v.category).sum ≤ 8) (hls : ls.size = nL) (hRc : cells + mc ≤ R.cells ∧ slots + ms ≤ R.slots) (hdg : decode cc pc = .ok (.invokevirtual index, 3)) (hstk : v.toList ++ rest = stk)
    (kk : ∀ (H1 : Heap) (locs1 : List Loc), gG Z A s ws' H1 locs1 → W p l e R s m args below meth c H1 locs1 (cells + mc) (slots + ms) Q (F0 m (pc + 3) ls stk)) : W p l e R s m args below meth c H locs cells slots Q (F0 m pc ls st0) := by
  have hts := F.2.2.2.2.1
  refine gg_go (va_runVN (C := y.cls) (As := As) (rest := rest) ⟨F.1, F.2.1, F.2.2.1, F.2.2.2.1, hts⟩ (hM H.size) ⟨va_cnB n hts hY.good rfl hrm.1 hrm.2 (F.2.2.2.2.2.1.2 _ hlink) (hts _ hY.2.1) ⟨hY.2.2.1.1, hY.2.2.1.2, hY.2.2.2⟩ hR, hts _ hV.1, hts _ hV.2⟩ ⟨gB_blind, ?_, G.pre F _⟩ rfl hn hls hst (lv_room hcat) hdg hRc) G G.free hstk kk
  rw [← hcl]
  exact va_recv F.2.2.2.2.2.1.1 G.1 hc he
theorem gg_callS (F : gF Z p m s args meth c cc nL own ret) (G : gG Z A s ws H locs) {y : MethodName} {bytes : ByteArray} {maxL n mc ms : Nat} {rt : Option FieldType} {rm : Room} {As : List Value} {v : Option Value} {st0 stk : List Value} {index : Nat}
    (hM : gM Z l y bytes maxL rt rm As ws v ws' mc ms) (hY : gY y bytes maxL rt n) (hV : Cond.static y ∈ gW) (hlink : Cond.methodLink own index y ∈ gW)
    (hn : As.length = n) (hrm : rm.cells = mc ∧ rm.slots = ms) (hR : rm.frames + 1 ≤ R.frames ∧ 8 + (maxL + 11) + rm.locals ≤ R.locals) (hst : st0 = As.reverse ++ rest) (hcat : (rest.map fun v => v.category).sum ≤ 8) (hls : ls.size = nL) (hRc : cells + mc ≤ R.cells ∧ slots + ms ≤ R.slots) (hdg : decode cc pc = .ok (.invokestatic index, 3)) (hstk : v.toList ++ rest = stk)
    (kk : ∀ (H1 : Heap) (locs1 : List Loc), gG Z A s ws' H1 locs1 → W p l e R s m args below meth c H1 locs1 (cells + mc) (slots + ms) Q (F0 m (pc + 3) ls stk)) : W p l e R s m args below meth c H locs cells slots Q (F0 m pc ls st0) := by
  have hts := F.2.2.2.2.1
  exact gg_go (va_runS (As := As) (rest := rest) ⟨F.1, F.2.1, F.2.2.1, F.2.2.2.1, hts⟩ (hM H.size) ⟨callB_of n hts hY.good rfl hrm.1 hrm.2 (hts _ hY.2.1) (hts _ hlink) ⟨hY.2.2.1.1, hY.2.2.1.2, hY.2.2.2⟩ hR, hts _ hV⟩ ⟨gB_blind, G.pre F _⟩ rfl hn hls hst (lv_room hcat) hdg hRc) G G.free hstk kk
theorem gg_callSN (F : gF Z p m s args meth c cc nL own ret) (G : gG Z A s ws H locs) {y : MethodName} {host : String} {bytes : ByteArray} {maxL n mc ms : Nat} {rt : Option FieldType} {rm : Room} {As : List Value} {v : Option Value} {st0 stk : List Value} {index : Nat}
    (hM : gM Z l y bytes maxL rt rm As ws v ws' mc ms) (hY : gY y bytes maxL rt n) (hV : Cond.static y ∈ gW) (hlink : Cond.methodLinkNest own index y host ∈ nW)
    (hn : As.length = n) (hrm : rm.cells = mc ∧ rm.slots = ms) (hR : rm.frames + 1 ≤ R.frames ∧ 8 + (maxL + 11) + rm.locals ≤ R.locals) (hst : st0 = As.reverse ++ rest) (hcat : (rest.map fun v => v.category).sum ≤ 8) (hls : ls.size = nL) (hRc : cells + mc ≤ R.cells ∧ slots + ms ≤ R.slots) (hdg : decode cc pc = .ok (.invokestatic index, 3)) (hstk : v.toList ++ rest = stk)
    (kk : ∀ (H1 : Heap) (locs1 : List Loc), gG Z A s ws' H1 locs1 → W p l e R s m args below meth c H1 locs1 (cells + mc) (slots + ms) Q (F0 m (pc + 3) ls stk)) : W p l e R s m args below meth c H locs cells slots Q (F0 m pc ls st0) := by
  have hts := F.2.2.2.2.1
  exact gg_go (va_runSN (As := As) (rest := rest) ⟨F.1, F.2.1, F.2.2.1, F.2.2.2.1, hts⟩ (hM H.size) ⟨va_cnB n hts hY.good rfl hrm.1 hrm.2 (F.2.2.2.2.2.1.2 _ hlink) (hts _ hY.2.1) ⟨hY.2.2.1.1, hY.2.2.1.2, hY.2.2.2⟩ hR, hts _ hV, trivial⟩ ⟨gB_blind, G.pre F _⟩ rfl hn hls hst (lv_room hcat) hdg hRc) G G.free hstk kk
theorem gg_callI (F : gF Z p m s args meth c cc nL own ret) (G : gG Z A s ws H locs) {y : MethodName} {bytes : ByteArray} {maxL n mc ms : Nat} {rm : Room} {b : Nat} {As : List Value} {v : Option Value} {st0 stk : List Value} {index : Nat}
    (hM : gM Z l y bytes maxL none rm (.ref b :: As) ws v ws' mc ms) (hY : gY y bytes maxL none n) (hV : y.name = "<init>" ∧ Cond.instanceMethod y ∈ gW) (hlink : Cond.methodLink own index y ∈ gW)
    (hn : As.length = n) (hrm : rm.cells = mc ∧ rm.slots = ms) (hR : rm.frames + 1 ≤ R.frames ∧ 8 + (maxL + 11) + rm.locals ≤ R.locals) (hst : st0 = As.reverse ++ .ref b :: rest) (hcat : (rest.map fun v => v.category).sum ≤ 8) (hls : ls.size = nL) (hRc : cells + mc ≤ R.cells ∧ slots + ms ≤ R.slots) (hdg : decode cc pc = .ok (.invokespecial index, 3)) (hstk : v.toList ++ rest = stk)
    (kk : ∀ (H1 : Heap) (locs1 : List Loc), gG Z A s ws' H1 locs1 → W p l e R s m args below meth c H1 locs1 (cells + mc) (slots + ms) Q (F0 m (pc + 3) ls stk)) : W p l e R s m args below meth c H locs cells slots Q (F0 m pc ls st0) := by
  have hts := F.2.2.2.2.1
  exact gg_go (va_runI (As := As) (rest := rest) ⟨F.1, F.2.1, F.2.2.1, F.2.2.2.1, hts⟩ (hM H.size) ⟨callB_of n hts hY.good rfl hrm.1 hrm.2 (hts _ hY.2.1) (hts _ hlink) ⟨hY.2.2.1.1, hY.2.2.1.2, hY.2.2.2⟩ hR, hV.1, hts _ hV.2⟩ ⟨gB_blind, G.pre F _⟩ rfl hn hls hst (lv_room hcat) hdg hRc) G G.free hstk kk
theorem gg_callIN (F : gF Z p m s args meth c cc nL own ret) (G : gG Z A s ws H locs) {y : MethodName} {host : String} {bytes : ByteArray} {maxL n mc ms : Nat} {rm : Room} {b : Nat} {As : List Value} {v : Option Value} {st0 stk : List Value} {index : Nat}
    (hM : gM Z l y bytes maxL none rm (.ref b :: As) ws v ws' mc ms) (hY : gY y bytes maxL none n) (hV : y.name = "<init>" ∧ Cond.instanceMethod y ∈ gW) (hlink : Cond.methodLinkNest own index y host ∈ nW)
    (hn : As.length = n) (hrm : rm.cells = mc ∧ rm.slots = ms) (hR : rm.frames + 1 ≤ R.frames ∧ 8 + (maxL + 11) + rm.locals ≤ R.locals) (hst : st0 = As.reverse ++ .ref b :: rest) (hcat : (rest.map fun v => v.category).sum ≤ 8) (hls : ls.size = nL) (hRc : cells + mc ≤ R.cells ∧ slots + ms ≤ R.slots) (hdg : decode cc pc = .ok (.invokespecial index, 3)) (hstk : v.toList ++ rest = stk)
    (kk : ∀ (H1 : Heap) (locs1 : List Loc), gG Z A s ws' H1 locs1 → W p l e R s m args below meth c H1 locs1 (cells + mc) (slots + ms) Q (F0 m (pc + 3) ls stk)) : W p l e R s m args below meth c H locs cells slots Q (F0 m pc ls st0) := by
  have hts := F.2.2.2.2.1
  exact gg_go (va_runIN (As := As) (rest := rest) ⟨F.1, F.2.1, F.2.2.1, F.2.2.2.1, hts⟩ (hM H.size) ⟨va_cnB n hts hY.good rfl hrm.1 hrm.2 (F.2.2.2.2.2.1.2 _ hlink) (hts _ hY.2.1) ⟨hY.2.2.1.1, hY.2.2.1.2, hY.2.2.2⟩ hR, hV.1, hts _ hV.2⟩ ⟨gB_blind, G.pre F _⟩ rfl hn hls hst (lv_room hcat) hdg hRc) G G.free hstk kk
/-- fields -/
theorem gg_get (F : gF Z p m s args meth c cc nL own ret) (G : gG Z A s ws H locs) {a ci q0 index N : Nat} (k : Nat) {fs : List Value} {C : String} {T : u_T} {ty0 : Nat → FieldType} {v : Value} (hC : gC C T N ty0) (hc : vwCl[ci]? = some (C, T, N)) (he : ws[q0]? = some (a, .inr (ci, fs))) (hk : k < N) (hlink : Cond.fieldLink own index (T k).1 (T k).2.1 (T k).2.2.1 ∈ gW) (hv : fs[k]? = some v) (hdg : decode cc pc = .ok (.getfield index, 3))
    (kk : W p l e R s m args below meth c H locs cells slots Q (F0 m (pc + 3) ls (v :: rest))) : W p l e R s m args below meth c H locs cells slots Q (F0 m pc ls (.ref a :: rest)) :=
  va_get F.1 F.2.1 F.2.2.2.2.1 hC.1 F.2.2.2.1 F.2.2.2.2.2.1.1 G.1 q0 he hc k hk (F.2.2.2.2.1 _ hlink) (fun _ h => h) hv hdg kk
theorem gg_getN (F : gF Z p m s args meth c cc nL own ret) (G : gG Z A s ws H locs) {a ci q0 index N : Nat} (k : Nat) {host : String} {fs : List Value} {C : String} {T : u_T} {ty0 : Nat → FieldType} {v : Value} (hC : gC C T N ty0) (hc : vwCl[ci]? = some (C, T, N)) (he : ws[q0]? = some (a, .inr (ci, fs))) (hk : k < N) (hlink : Cond.fieldLinkNest own index (T k).1 (T k).2.1 (T k).2.2.1 host ∈ nW) (hv : fs[k]? = some v) (hdg : decode cc pc = .ok (.getfield index, 3))
    (kk : W p l e R s m args below meth c H locs cells slots Q (F0 m (pc + 3) ls (v :: rest))) : W p l e R s m args below meth c H locs cells slots Q (F0 m pc ls (.ref a :: rest)) :=
  va_getN F.1 F.2.1 F.2.2.2.2.1 hC.1 F.2.2.2.1 F.2.2.2.2.2.1.1 G.1 q0 he hc k hk (va_Nw.use rfl (F.2.2.2.2.2.1.2 _ hlink)) (fun _ h => h) hv hdg kk
theorem gg_put (F : gF Z p m s args meth c cc nL own ret) (G : gG Z A s ws H locs) {a ci q0 index N : Nat} (k : Nat) {fs : List Value} {C : String} {T : u_T} {ty0 : Nat → FieldType} {v : Value} (hC : gC C T N ty0) (hc : vwCl[ci]? = some (C, T, N)) (he : ws[q0]? = some (a, .inr (ci, fs))) (hk : k < N) (hlink : Cond.fieldLink own index (T k).1 (T k).2.1 (T k).2.2.1 ∈ gW) (hfin : (T k).2.2.2 = false) (hn : narrow (ty0 k) v = v) (hfit : fits (ty0 k) v = true) (hl : k < fs.length) (hw : ws.set q0 (a, .inr (ci, fs.set k v)) = ws') (hdg : decode cc pc = .ok (.putfield index, 3))
    (kk : ∀ (H1 : Heap) (locs1 : List Loc), gG Z A s ws' H1 locs1 → W p l e R s m args below meth c H1 locs1 cells slots Q (F0 m (pc + 3) ls rest)) : W p l e R s m args below meth c H locs cells slots Q (F0 m pc ls (v :: .ref a :: rest)) :=
  va_put F.1 F.2.1 F.2.2.2.2.1 hC.1 ty0 hC.2.1 hC.2.2 F.2.2.2.1 F.2.2.2.2.2.1.1 G.1 G.2.1 G.2.2.1 q0 he hc k hk (F.2.2.2.2.1 _ hlink) (fun _ h => h) hfin (hC.2.1 k hk) hn hfit hl hdg (fun H1 locs1 h1 h2 h3 => kk H1 locs1 ⟨hw ▸ h1, hw ▸ h2, h3, G.2.2.2⟩)
theorem gg_putN (F : gF Z p m s args meth c cc nL own ret) (G : gG Z A s ws H locs) {a ci q0 index N : Nat} (k : Nat) {host : String} {fs : List Value} {C : String} {T : u_T} {ty0 : Nat → FieldType} {v : Value} (hC : gC C T N ty0) (hc : vwCl[ci]? = some (C, T, N)) (he : ws[q0]? = some (a, .inr (ci, fs))) (hk : k < N) (hlink : Cond.fieldLinkNest own index (T k).1 (T k).2.1 (T k).2.2.1 host ∈ nW) (hfin : (T k).2.2.2 = false) (hn : narrow (ty0 k) v = v) (hfit : fits (ty0 k) v = true) (hl : k < fs.length) (hw : ws.set q0 (a, .inr (ci, fs.set k v)) = ws') (hdg : decode cc pc = .ok (.putfield index, 3))
    (kk : ∀ (H1 : Heap) (locs1 : List Loc), gG Z A s ws' H1 locs1 → W p l e R s m args below meth c H1 locs1 cells slots Q (F0 m (pc + 3) ls rest)) : W p l e R s m args below meth c H locs cells slots Q (F0 m pc ls (v :: .ref a :: rest)) :=
  va_putN F.1 F.2.1 F.2.2.2.2.1 hC.1 ty0 hC.2.1 hC.2.2 F.2.2.2.1 F.2.2.2.2.2.1.1 G.1 G.2.1 G.2.2.1 q0 he hc k hk (va_Nw.use rfl (F.2.2.2.2.2.1.2 _ hlink)) (fun _ h => h) hfin (hC.2.1 k hk) hn hfit hl hdg (fun H1 locs1 h1 h2 h3 => kk H1 locs1 ⟨hw ▸ h1, hw ▸ h2, h3, G.2.2.2⟩)
/-- arrays -/
theorem gg_iald (F : gF Z p m s args meth c cc nL own ret) (G : gG Z A s ws H locs) {a q0 n : Nat} {f : Nat → Int32} {i v : Int32} (he : ws[q0]? = some (a, .inl (Z.2.1, n, .inl f))) (hin : vp_in i n) (hv : f i.toNatClampNeg = v) (hdg : decode cc pc = .ok (.iaload, 1))
    (kk : W p l e R s m args below meth c H locs cells slots Q (F0 m (pc + 1) ls (.int v :: rest))) : W p l e R s m args below meth c H locs cells slots Q (F0 m pc ls (.int i :: .ref a :: rest)) :=
  va_iald F.1 F.2.1 F.2.2.2.2.2.1.1 G.1 q0 0 he rfl hin hdg (by rw [hv]; exact kk)
theorem gg_iast (F : gF Z p m s args meth c cc nL own ret) (G : gG Z A s ws H locs) {a q0 n : Nat} {f : Nat → Int32} {i x : Int32} (he : ws[q0]? = some (a, .inl (Z.2.1, n, .inl f))) (hin : vp_in i n) (hw : ws.set q0 (a, .inl (Z.2.1, n, .inl (upd f i.toNatClampNeg x))) = ws') (hdg : decode cc pc = .ok (.iastore, 1))
    (kk : ∀ (H1 : Heap) (locs1 : List Loc), gG Z A s ws' H1 locs1 → W p l e R s m args below meth c H1 locs1 cells slots Q (F0 m (pc + 1) ls rest)) : W p l e R s m args below meth c H locs cells slots Q (F0 m pc ls (.int x :: .int i :: .ref a :: rest)) :=
  va_iast F.1 F.2.1 F.2.2.2.2.2.1.1 G.1 G.2.1 G.2.2.1 q0 0 he rfl hin hdg (fun H1 locs1 h1 h2 h3 => kk H1 locs1 ⟨hw ▸ h1, hw ▸ h2, h3, G.2.2.2⟩)
theorem gg_aald (F : gF Z p m s args meth c cc nL own ret) (G : gG Z A s ws H locs) {a q0 t0 n : Nat} {cA : ClassId} {C : String} {f : Nat → Option Nat} {i : Int32} {v : Value} (he : ws[q0]? = some (a, .inl (cA, n, .inr (.inr (.inr (.inr f)))))) (ht : (gT Z)[t0]? = some (cA, .object C)) (hin : vp_in i n) (hv : va_rf (f i.toNatClampNeg) = v) (hdg : decode cc pc = .ok (.aaload, 1))
    (kk : W p l e R s m args below meth c H locs cells slots Q (F0 m (pc + 1) ls (v :: rest))) : W p l e R s m args below meth c H locs cells slots Q (F0 m pc ls (.int i :: .ref a :: rest)) :=
  va_aldq F.1 F.2.1 F.2.2.2.2.2.1.1 G.1 q0 t0 he ht hin hdg (by rw [hv]; exact kk)
theorem gg_alen (F : gF Z p m s args meth c cc nL own ret) (G : gG Z A s ws H locs) {a q0 t0 : Nat} {cA : ClassId} {x : vp_A} {ty : FieldType} {v : Int32} (he : ws[q0]? = some (a, .inl (cA, x))) (ht : (gT Z)[t0]? = some (cA, ty)) (hv : Int32.ofNat x.1 = v) (hdg : decode cc pc = .ok (.arraylength, 1))
    (kk : W p l e R s m args below meth c H locs cells slots Q (F0 m (pc + 1) ls (.int v :: rest))) : W p l e R s m args below meth c H locs cells slots Q (F0 m pc ls (.ref a :: rest)) :=
  va_alen F.1 F.2.1 F.2.2.2.2.2.1.1 G.1 q0 t0 he ht hv hdg kk
/-- ends -/
theorem gg_iret {ty : FieldType} (F : gF Z p m s args meth c cc nL own (some ty)) (G : gG Z A s ws H locs) {x v : Int32} (hn : narrow ty (.int x) = .int x) (hv : x = v) (hw : ws = ws') (hdg : decode cc pc = .ok (.ireturn, 1)) : W p l e R s m args below meth c H locs cells slots (MQ below (gQ Z A (some (.int v)) ws') args s cells slots A) (F0 m pc ls [.int x]) := by
  subst hv; subst hw
  have hlocks := F.2.2.2.2.2.2.2
  exact W.zret F.1 F.2.1 F.2.2.2.2.2.2.1 hn (fun t ht hW => ⟨⟨rfl, by rw [ht]; exact G.1, G.2.1⟩, G.2.2.1.F ht⟩) G.2.2.1.2.2 hdg
theorem gg_lret (F : gF Z p m s args meth c cc nL own (some .long)) (G : gG Z A s ws H locs) {x v : Int64} (hv : x = v) (hw : ws = ws') (hdg : decode cc pc = .ok (.lreturn, 1)) : W p l e R s m args below meth c H locs cells slots (MQ below (gQ Z A (some (.long v)) ws') args s cells slots A) (F0 m pc ls [.long x]) := by
  subst hv; subst hw
  have hlocks := F.2.2.2.2.2.2.2
  exact W.lret F.1 F.2.1 F.2.2.2.2.2.2.1 (fun t ht hW => ⟨⟨rfl, by rw [ht]; exact G.1, G.2.1⟩, G.2.2.1.F ht⟩) G.2.2.1.2.2 hdg
theorem gg_vret (F : gF Z p m s args meth c cc nL own none) (G : gG Z A s ws H locs) (hw : ws = ws') (hdg : decode cc pc = .ok (.return_, 1)) : W p l e R s m args below meth c H locs cells slots (MQ below (gQ Z A none ws') args s cells slots A) (F0 m pc ls []) := by
  subst hw
  have hlocks := F.2.2.2.2.2.2.2
  exact W.vret F.1 F.2.1 F.2.2.2.2.2.2.1 (fun t ht hW => ⟨⟨rfl, by rw [ht]; exact G.1, G.2.1⟩, G.2.2.1.F ht⟩) G.2.2.1.2.2 hdg
theorem gg_aret {C : String} (F : gF Z p m s args meth c cc nL own (some (.object C))) (G : gG Z A s ws H locs) {x v : Value} (hx : x = .null ∨ ∃ a, x = .ref a) (hv : x = v) (hw : ws = ws') (hdg : decode cc pc = .ok (.areturn, 1)) : W p l e R s m args below meth c H locs cells slots (MQ below (gQ Z A (some v) ws') args s cells slots A) (F0 m pc ls [x]) := by
  subst hv; subst hw
  have hlocks := F.2.2.2.2.2.2.2
  exact W.aret F.1 F.2.1 F.2.2.2.2.2.2.1 (Or.inl ⟨_, rfl⟩) hx (fun t ht hW => ⟨⟨rfl, by rw [ht]; exact G.1, G.2.1⟩, G.2.2.1.F ht⟩) G.2.2.1.2.2 hdg
/-- Math.max, Math.abs -/
theorem gg_max (F : gF Z p m s args meth c cc nL own ret) {index : Nat} (hls : ls.size = nL) (hlink : Cond.methodLink own index Lib.Math.max.name ∈ gW) (hframes : 1 ≤ R.frames) (hlocals : (rest.map fun v => v.category).sum + 13 ≤ R.locals) (hc : cells ≤ R.cells) (hs : slots ≤ R.slots) {x y : Int32} (hdg : decode cc pc = .ok (.invokestatic index, 3))
    (kk : W p l e R s m args below meth c H locs cells slots Q (F0 m (pc + 3) ls (.int (if x < y then y else x) :: rest))) : W p l e R s m args below meth c H locs cells slots Q (F0 m pc ls (.int y :: .int x :: rest)) :=
  va_mmax F.1 F.2.1 (F.2.2.1.trans hls.symm) F.2.2.2.1 (F.2.2.2.2.1 _ hlink) (F.2.2.2.2.1 _ w1_85) (F.2.2.2.2.1 _ w1_6) (F.2.2.2.2.1 _ w1_86) hframes hlocals hc hs hdg kk
theorem gg_abs (F : gF Z p m s args meth c cc nL own ret) {index : Nat} (hls : ls.size = nL) (hlink : Cond.methodLink own index Lib.Math.abs.name ∈ gW) (hframes : 1 ≤ R.frames) (hlocals : (rest.map fun v => v.category).sum + 13 ≤ R.locals) (hc : cells ≤ R.cells) (hs : slots ≤ R.slots) {x : Int32} (hdg : decode cc pc = .ok (.invokestatic index, 3))
    (kk : W p l e R s m args below meth c H locs cells slots Q (F0 m (pc + 3) ls (.int (if 0 ≤ x then x else 0 - x) :: rest))) : W p l e R s m args below meth c H locs cells slots Q (F0 m pc ls (.int x :: rest)) :=
  va_mabs F.1 F.2.1 (F.2.2.1.trans hls.symm) F.2.2.2.1 (F.2.2.2.2.1 _ hlink) (F.2.2.2.2.1 _ w4_173) (F.2.2.2.2.1 _ w1_6) (F.2.2.2.2.1 _ w4_174) hframes hlocals hc hs hdg kk
end GROWS
