/-! the law's own rows: an argument out of the script, a wrapper's call, a call on the reference, out[0] -/
section GROWS67
variable {p : Program} {l : Launch} {e : Env} {R : Room} {s : State} {m : MethodId} {args : Array Value} {below : List Frame} {meth : Method} {c : Code} {H : Heap} {locs : List Loc} {cells slots : Nat} {Q : State → Prop}
variable {Z : gZ} {cL : ClassId} {A : Nat → Prop} {ws ws' X : va_W} {P : va_W → Prop} {cc : ByteArray} {nL pc : Nat} {own : String} {ret : Option FieldType} {ls : Array Slot} {rest : List Value}
/-- the script's number k -/
theorem gl_sld (F : gF Z p m s args meth c cc nL own ret) (G : gG Z A s ws H locs) {b L : Nat} {xs : Nat → Int32} (hX : va_X b L xs s s.heap) (hbl : b < s.heap.size) (hbA : ¬ A b) {k : Nat} (hk : k < L) (hL : L ≤ 3584) (hdg : decode cc pc = .ok (.iaload, 1))
    (kk : W p l e R s m args below meth c H locs cells slots Q (F0 m (pc + 1) ls (.int (xs k) :: rest))) : W p l e R s m args below meth c H locs cells slots Q (F0 m pc ls (.int (nI k) :: .ref b :: rest)) := by
  have e : (nI k).toNatClampNeg = k := nI_clamp (by omega)
  refine va_sld F.1 F.2.1 hX hbl hbA G.2.2.1 (i := nI k) ?_ hdg ?_
  · unfold vp_in
    rw [e]
    intro h
    rcases h with h | h
    · exact nI_pos (n := k) (by omega) h
    · omega
  · rw [e]
    exact kk
/-- script[i + k] goes on the stack -/
theorem gl_arg (F : gF Z p m s args meth c cc nL own ret) (G : gG Z A s ws H locs) {b L i : Nat} (k : Nat) {n : Int} {xs : Nat → Int32} (hX : va_X b L xs s s.heap) (hbl : b < s.heap.size) (hbA : ¬ A b) (hk : i + k < L) (hL : L ≤ 3584) (hl0 : ls[0]? = some (.val (.ref b))) (hl4 : ls[4]? = some (.val (.int (nI i))))
    (d0 : decode cc pc = .ok (.aload_n 0, 1)) (d1 : decode cc (pc + 1) = .ok (.iload 4, 2)) (d2 : decode cc (pc + 3) = .ok (.iconst n, 1)) (d3 : decode cc (pc + 4) = .ok (.iadd, 1)) (d4 : decode cc (pc + 5) = .ok (.iaload, 1)) (hv : Int32.ofInt n = nI k)
    (kk : W p l e R s m args below meth c H locs cells slots Q (F0 m (pc + 6) ls (.int (xs (i + k)) :: rest))) : W p l e R s m args below meth c H locs cells slots Q (F0 m pc ls rest) := by
  refine lv_aload_n F.1 F.2.1 d0 rfl hl0 ?_
  refine lv_iload F.1 F.2.1 d1 hl4 ?_
  refine lv_iconst (v := nI k) F.1 F.2.1 d2 hv ?_
  refine lv_iadd F.1 F.2.1 d3 ?_
  rw [nI_add]
  exact gl_sld F G hX hbl hbA hk hL d4 kk
/-- script[i + k] goes on the stack -/
theorem gl_argB (F : gF Z p m s args meth c cc nL own ret) (G : gG Z A s ws H locs) {b L i : Nat} (k : Nat) {n : Int} {xs : Nat → Int32} (hX : va_X b L xs s s.heap) (hbl : b < s.heap.size) (hbA : ¬ A b) (hk : i + k < L) (hL : L ≤ 3584) (hl0 : ls[0]? = some (.val (.ref b))) (hl4 : ls[4]? = some (.val (.int (nI i))))
    (d0 : decode cc pc = .ok (.aload_n 0, 1)) (d1 : decode cc (pc + 1) = .ok (.iload 4, 2)) (d2 : decode cc (pc + 3) = .ok (.bipush n, 2)) (d3 : decode cc (pc + 5) = .ok (.iadd, 1)) (d4 : decode cc (pc + 6) = .ok (.iaload, 1)) (hv : (Int8.ofInt n).toInt32 = nI k)
    (kk : W p l e R s m args below meth c H locs cells slots Q (F0 m (pc + 7) ls (.int (xs (i + k)) :: rest))) : W p l e R s m args below meth c H locs cells slots Q (F0 m pc ls rest) := by
  refine lv_aload_n F.1 F.2.1 d0 rfl hl0 ?_
  refine lv_iload F.1 F.2.1 d1 hl4 ?_
  refine lv_bipush (v := nI k) F.1 F.2.1 d2 hv ?_
  refine lv_iadd F.1 F.2.1 d3 ?_
  rw [nI_add]
  exact gl_sld F G hX hbl hbA hk hL d4 kk
/-- out[0] -/
theorem gl_lald (F : gF Z p m s args meth c cc nL own ret) (hKL : gKL Z cL s) {o : Nat} {f : Nat → Int64} (G : gG Z A s ((ws ++ [(o, outE cL f)]) ++ X) H locs) (hdg : decode cc pc = .ok (.laload, 1))
    (kk : W p l e R s m args below meth c H locs cells slots Q (F0 m (pc + 1) ls (.long (f 0) :: rest))) : W p l e R s m args below meth c H locs cells slots Q (F0 m pc ls (.int 0 :: .ref o :: rest)) := by
  have he : (ws ++ [(o, outE cL f)])[ws.length]? = some (o, outE cL f) := by
    rw [List.getElem?_append_right (Nat.le_refl _), Nat.sub_self]; rfl
  exact va_lald F.1 F.2.1 hKL G.left.1 ws.length 0 he rfl (by unfold vp_in; decide) hdg kk
/-- a wrapper's call, the rest of the world beside it -/
theorem gl_callL (F : gF Z p m s args meth c cc nL own ret) (hxK : xK s) (hxZ : xZ A s s.heap) (hKL : gKL Z cL s) (hnC : nC s) (G : gG Z A s (ws ++ X) H locs) {y : MethodName} {bytes : ByteArray} {maxL n mc ms : Nat} {hh : hT} {rm : Room} {As : List Value} {k : Int32} {st0 : List Value} {index : Nat}
    (hM : gL Z cL l y bytes maxL hh rm As ws k P mc ms) (hcw : Cond.codeWith y bytes maxL (some .int) hh ∈ gW) (hini : Cond.initialized y.cls ∈ gW) (hd : (y.cls ≠ "java/lang/invoke/MethodHandle" ∧ y.cls ≠ "java/lang/invoke/VarHandle") ∧ (parseMethodDescriptor y.desc).map (fun d => d.parameters.length) = some n) (hV : Cond.static y ∈ gW) (hlink : Cond.methodLink own index y ∈ gW)
    (hn : As.length = n) (hrm : rm.cells = mc ∧ rm.slots = ms) (hR : rm.frames + 1 ≤ R.frames ∧ 8 + (maxL + 11) + rm.locals ≤ R.locals) (hst : st0 = As.reverse ++ rest) (hcat : (rest.map fun v => v.category).sum ≤ 8) (hls : ls.size = nL) (hRc : cells + mc ≤ R.cells ∧ slots + ms ≤ R.slots) (hdg : decode cc pc = .ok (.invokestatic index, 3))
    (kk : ∀ (H1 : Heap) (locs1 : List Loc) (ws' : va_W), P ws' → gG Z A s (ws' ++ X) H1 locs1 → W p l e R s m args below meth c H1 locs1 (cells + mc) (slots + ms) Q (F0 m (pc + 3) ls (.int k :: rest))) : W p l e R s m args below meth c H locs cells slots Q (F0 m pc ls st0) := by
  have hts := F.2.2.2.2.1
  have hG : GoodIn gW (Cond.codeWith y bytes maxL (some .int) hh :: gW) := fun w hw => (List.mem_cons.mp hw).elim (fun e => by rw [e]; exact ⟨hcw, gW_good _ hcw⟩) (fun hw => ⟨hw, gW_good _ hw⟩)
  have hpre : ∀ U : State, U.heap = H → s.WarmedH U.vm → va_Pc As (gBL Z cL ws H.size) As.toArray U := fun U hU hW => ⟨rfl, (G.left.preX F hxK hxZ As U hU hW).2, va_K.moved hW.alike hKL, nC.moved hW.alike hnC⟩
  exact gg_goE (vx_runSW (hh := hh) (As := As) (rest := rest) ⟨F.1, F.2.1, F.2.2.1, F.2.2.2.1, hts⟩ (hM H.size) ⟨⟨hrm.1, hrm.2, hR.1, hR.2, pay_in hts hG, List.mem_cons_self⟩, hts _ hcw, hts _ hini, hd.1, fun sig h => by
      have h2 := hd.2
      rw [h] at h2
      exact (Option.some.inj h2).symm, hts _ hlink, hts _ hV⟩ ⟨gBL_blind, hpre⟩ rfl hn hls hst (lv_room hcat) hdg hRc) G rfl kk
end GROWS67
theorem cmp_self (x : Int64) : lg_cmp x x = 0 := by simp [lg_cmp]
