/-! the law's wrappers: a call on the class, caught; the contract gL -/
/-- exceptions that are no kind of each other -/
def nC (U : State) : Prop := va_Nc xIS xIA U ∧ va_Nc xIA xIO U ∧ va_Nc xIS xIO U ∧ va_Nc xIO xIA U
theorem nC.moved {u U : State} (hvm : u.vm.Alike U.vm) (h : nC u) : nC U := ⟨va_Nc.moved hvm h.1, va_Nc.moved hvm h.2.1, va_Nc.moved hvm h.2.2.1, va_Nc.moved hvm h.2.2.2⟩
/-- the row of longs' class -/
def gKL (Z : gZ) (cL : ClassId) (U : State) : Prop := va_K Z.1 vwCl [(cL, .long)] U
abbrev outE (cL : ClassId) (f : Nat → Int64) : va_E := .inl (cL, 1, .inr (.inl f))
def gBL (Z : gZ) (cL : ClassId) (ws : va_W) (sz : Nat) (U : State) : Prop := gBX Z ws sz U ∧ gKL Z cL U ∧ nC U
theorem gBL_blind {Z : gZ} {cL : ClassId} {av : List Value} {ws : va_W} {sz : Nat} : FrameBlind (va_Pc av (gBL Z cL ws sz)) := fun a U g mk h =>
  ⟨h.1, (gBX_blind a U g mk ⟨h.1, h.2.1⟩).2, va_K.moved (u := U) (U := U.calling g mk a) (Vm.Alike.refl U.vm) h.2.2.1, nC.moved (u := U) (U := U.calling g mk a) (Vm.Alike.refl U.vm) h.2.2.2⟩
abbrev hT : Type := List (Nat × Nat × Nat × Nat)
def gL (Z : gZ) (cL : ClassId) (l : Launch) (y : MethodName) (bytes : ByteArray) (maxL : Nat) (hh : hT) (rm : Room) (av : List Value) (ws : va_W) (k : Int32) (P : va_W → Prop) (mc ms : Nat) : Prop := ∀ sz : Nat, Met l y (Cond.codeWith y bytes maxL (some .int) hh :: gW) rm (va_Pc av (gBL Z cL ws sz)) (gQE Z (va_A ws sz) (some (.int k)) P) mc ms (va_A ws sz)
theorem gL_of {Z : gZ} {cL : ClassId} {l : Launch} {y : MethodName} {bytes : ByteArray} {maxL : Nat} {hh : hT} {rm : Room} {av : List Value} {ws : va_W} {k : Int32} {P : va_W → Prop} {mc ms : Nat} (hy : plainName y.cls = true) (hav : (lg_sl av).length ≤ maxL)
    (body : ∀ (p : Program) (e : Env) (s : State) (m : MethodId) (args : Array Value) (below : List Frame) (meth : Method) (c : Code) (A : Nat → Prop), gF Z p m s args meth c bytes maxL y.cls (some .int) → c.exceptionTable.toList = tableOf hh → xK s → xZ A s s.heap → gKL Z cL s → nC s → gG Z A s ws s.heap [] → ∀ ls : Array Slot, lv_has ls maxL (lv_args 0 av) →
      W p l e rm s m args below meth c s.heap [] 0 0 (MQ below (gQE Z A (some (.int k)) P) args s mc ms A) (F0 m 0 ls [])) : gL Z cL l y bytes maxL hh rm av ws k P mc ms := by
  intro sz
  refine va_MetW (cc := bytes) (maxL := maxL) (ret := some .int) (hh := hh) hy rfl ?_
  intro p e s m args below meth c s₁ B hml hv
  obtain ⟨rfl, ⟨⟨hsz, hP, hK, hD0⟩, hxK, hxZ⟩, hKL, hnC⟩ := hv
  have hts := atoms_spec (ws := Cond.codeWith y bytes maxL (some .int) hh :: gW) B.pre
  have htab := vx_table (x := y) B (hts _ List.mem_cons_self)
  subst hsz
  rw [lg_entry_eq]
  exact body p e s m _ below meth c (va_A ws s.heap.size) ⟨B.exec, B.bytes, hml, findClass_of_methodNamed B.named, fun w h => hts w (List.mem_cons_of_mem _ h), hK, B.returns, B.notSynchronized⟩ htab hxK hxZ hKL hnC ⟨hP, hD0.self, va_S.rf, fun q h => Or.inr h⟩ _ (lv_entry av hav)
theorem gM.toE {Z : gZ} {l : Launch} {y : MethodName} {bytes : ByteArray} {maxL : Nat} {ret : Option FieldType} {rm : Room} {av : List Value} {ws ws' : va_W} {v : Option Value} {mc ms : Nat} (h : gM Z l y bytes maxL ret rm av ws v ws' mc ms) : gE Z l y bytes maxL ret rm av ws v (fun z => z = ws') mc ms := fun sz p e ha hc hk s m args below hf happ hP ht => by
  obtain ⟨k, o, h1, h2, h3, hQ, hL⟩ := h sz p e ha hc hk s m args below hf happ hP ht
  exact ⟨k, o, h1, h2, h3, ⟨⟨hQ.1.1, _, rfl, hQ.1.2⟩, hQ.2⟩, hL⟩
section GROWS64
variable {p : Program} {l : Launch} {e : Env} {R : Room} {s : State} {m : MethodId} {args : Array Value} {below : List Frame} {meth : Method} {c : Code} {H : Heap} {locs : List Loc} {cells slots : Nat} {Q : State → Prop}
variable {Z : gZ} {cL : ClassId} {A : Nat → Prop} {ws ws' X : va_W} {P : va_W → Prop} {cc : ByteArray} {nL pc : Nat} {own : String} {ret : Option FieldType} {ls : Array Slot} {rest : List Value}
/-- out[0] = x -/
theorem gl_last (F : gF Z p m s args meth c cc nL own ret) (hKL : gKL Z cL s) {o : Nat} {f : Nat → Int64} {x : Int64} (G : gG Z A s (ws ++ [(o, outE cL f)]) H locs) (hdg : decode cc pc = .ok (.lastore, 1))
    (kk : ∀ (H1 : Heap) (locs1 : List Loc) (g : Nat → Int64), g 0 = x → gG Z A s (ws ++ [(o, outE cL g)]) H1 locs1 → W p l e R s m args below meth c H1 locs1 cells slots Q (F0 m (pc + 1) ls rest)) : W p l e R s m args below meth c H locs cells slots Q (F0 m pc ls (.long x :: .int 0 :: .ref o :: rest)) := by
  have he : (ws ++ [(o, outE cL f)])[ws.length]? = some (o, outE cL f) := by
    rw [List.getElem?_append_right (Nat.le_refl _), Nat.sub_self]; rfl
  refine va_last F.1 F.2.1 hKL G.1 G.2.1 G.2.2.1 ws.length 0 he rfl (by unfold vp_in; decide) hdg (fun H1 locs1 h1 h2 h3 => ?_)
  have hw : (ws ++ [(o, outE cL f)]).set ws.length (o, outE cL (vp_updL f (0 : Int32).toNatClampNeg x)) = ws ++ [(o, outE cL (vp_updL f (0 : Int32).toNatClampNeg x))] := by
    rw [List.set_append_right _ _ (Nat.le_refl _), Nat.sub_self]; rfl
  rw [hw] at h1 h2
  exact kk H1 locs1 _ (by unfold vp_updL; exact if_pos rfl) ⟨h1, h2, h3, G.2.2.2⟩
/-- a call that throws, on a part of the world: what was thrown lies over this frame -/
theorem gl_callX (F : gF Z p m s args meth c cc nL own ret) (hxK : xK s) (hxZ : xZ A s s.heap) (G : gG Z A s (ws ++ X) H locs) {y : MethodName} {bytes : ByteArray} {maxL n mc ms : Nat} {rt : Option FieldType} {rm : Room} {b : Nat} {As : List Value} {E : String} {st0 : List Value} {k ci index : Nat} {fs : List Value} {r : vw_C}
    (hM : gX Z l y bytes maxL rt rm (.ref b :: As) ws E mc ms) (hY : gY y bytes maxL rt n) (hV : Cond.instanceMethod y ∈ gW ∧ Cond.selects y.cls y y ∈ gW) (he : ws[k]? = some (b, .inr (ci, fs))) (hc : vwCl[ci]? = some r) (hcl : r.1 = y.cls) (hlink : Cond.methodLink own index y ∈ gW)
    (hn : As.length = n) (hrm : rm.cells = mc ∧ rm.slots = ms) (hR : rm.frames + 1 ≤ R.frames ∧ 8 + (maxL + 11) + rm.locals ≤ R.locals) (hst : st0 = As.reverse ++ .ref b :: rest) (hcat : (rest.map fun v => v.category).sum ≤ 8) (hls : ls.size = nL) (hRc : cells + mc ≤ R.cells ∧ slots + ms ≤ R.slots) (hdg : decode cc pc = .ok (.invokevirtual index, 3))
    (kk : ∀ (H1 : Heap) (locs1 : List Loc) (q : Addr) (ce : Cell), gG Z A s (ws ++ X) H1 locs1 → H1[q]? = some ce → ce.vm = .none → s.vm.findClass E = some ce.cls → vx_W p l e R s m args below meth c H1 locs1 (cells + mc) (slots + ms) Q (F0 m pc ls rest) q) :
    W p l e R s m args below meth c H locs cells slots Q (F0 m pc ls st0) := by
  have hts := F.2.2.2.2.1
  have hr := vx_runV (e := e) (below := below) (meth := meth) (R := R) (locs := locs) (cells := cells) (slots := slots) (g := F0 m pc ls st0) (C := y.cls) (As := As) (rest := rest) ⟨F.1, F.2.1, F.2.2.1, F.2.2.2.1, hts⟩ (hM H.size) ⟨callB_of n hts hY.good rfl hrm.1 hrm.2 (hts _ hY.2.1) (hts _ hlink) ⟨hY.2.2.1.1, hY.2.2.1.2, hY.2.2.2⟩ hR, hts _ hV.1, hts _ hV.2⟩ ⟨gBX_blind, (by rw [← hcl]; exact va_recv F.2.2.2.2.2.1.1 G.left.1 hc he), G.left.preX F hxK hxZ _⟩ rfl hn hls hst (lv_room hcat) hdg hRc
  have hA1 := G.left.free
  have hXn : ∀ x ∈ X, x.1 < H.size ∧ ¬ va_A ws H.size x.1 := by
    intro x hx
    obtain ⟨i, hi⟩ := List.getElem?_of_mem hx
    have hlt : x.1 < H.size := (G.right.1 i x hi).lt
    refine ⟨hlt, fun h => ?_⟩
    rcases h with ⟨k, e, hk⟩ | h
    · have hk1 : (ws ++ X)[k]? = some (x.1, e) := by
        rw [List.getElem?_append_left (List.getElem?_eq_some_iff.mp hk).1]; exact hk
      have hk2 : (ws ++ X)[ws.length + i]? = some x := by
        rw [List.getElem?_append_right (by omega), show ws.length + i - ws.length = i by omega]; exact hi
      have := G.2.1.1 k (ws.length + i) _ _ hk1 hk2 rfl
      have := (List.getElem?_eq_some_iff.mp hk).1
      omega
    · omega
  have hXP := G.right.1
  obtain ⟨hP, hD, hS, hA⟩ := G
  intro T hT X0
  rcases hr T hT X0 with ⟨v, st₀, t, T', L, h0, X', hL, e1, e2, hno, st⟩ | ⟨q, st₀, t, T', L, E', ce, h0, X', hL, e1, e2, ⟨rfl, hp, hd, hFz⟩, hce, hcv, hcl2, st⟩
  · exact hno.elim
  · obtain ⟨hz, hk⟩ := hFz
    rw [h0] at hz hk
    have hXP' : va_P Z.1 vwCl X t.heap := hXP.kept (fun k q hq => hk q.1 (hXn q (List.mem_of_getElem? hq)).1 (hXn q (List.mem_of_getElem? hq)).2)
    obtain ⟨t2, a1, b1⟩ := kk T'.heap (locs ++ L) q ce ⟨by rw [e1]; exact hp.app hXP', hD, ⟨Nat.le_trans hS.1 (by rw [e1]; exact hz), fun q h1 h2 => by rw [e1, hk q (Nat.lt_of_lt_of_le h1 hS.1) (fun z => h2 (hA1 q z))]; exact hS.2.1 q h1 h2, fun q hq => by
      rcases List.mem_append.mp hq with h | h
      · exact hS.2.2 q h
      · exact hA1 _ (hL q h)⟩, hA⟩ (by rw [e1]; exact hce) hcv hcl2 T' rfl X'
    exact ⟨t2, st.trans a1, b1⟩
end GROWS64
