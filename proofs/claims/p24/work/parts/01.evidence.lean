/-! EVIDENCE, no claim: why no start meets the premises of this Statement. The law's method catches an exception, so its class file has an exception table of two rows; the head of the Statement says that it has none. -/
/-- the head's words are false of the law's own class file -/
theorem ev_head_false : classFile.hasCode x code maxLocals ret = false := by decide +kernel
/-- with the table that the class file has they are true -/
theorem ev_head_with : classFile.hasCodeWith x code maxLocals ret [(342, 405, 421, 81), (406, 418, 421, 81)] = true := by decide +kernel
/-- so no launch has what the Statement lists .. -/
theorem ev_no_launch (l : Launch) : ¬ Jvm.D.Lists l classFile x code maxLocals ret tables_1 room_1 := by
  rintro ⟨-, hfile, hfrom, -⟩
  have h := hfrom.1 (x, code, maxLocals, ret) (List.mem_append_left _ (List.mem_append_left _ List.mem_cons_self))
  dsimp only at h
  rw [hfile, Option.any_some, ev_head_false] at h
  cases h
/-- .. and no start meets its premises: whatever would be proved of them says nothing of the program -/
theorem ev_not_meetable : ¬ Jvm.D.Meetable classFile x code maxLocals ret World_1 tables_1 room_1 Calls_1 rest_1 Pre_1 := by
  rintro ⟨l, p, e, s, m, args, below, h, -⟩
  exact ev_no_launch l h
/-- the methods whose code the premises tell, the law's own first -/
abbrev ev_codes : List (MethodName × ByteArray × Nat × Option FieldType) := (Jvm.D.headSpec (Cond.code x code maxLocals ret :: tables_1) room_1).pre.codes
def ev_ok (y : MethodName × ByteArray × Nat × Option FieldType) : Bool := match launch0.file? y.1.cls with
  | some f => f.hasCode y.1 y.2.1 y.2.2.1 y.2.2.2
  | none => false
/-- the law's own is false of the launch's class files, and it alone: all others are true -/
theorem ev_first : ev_codes.head?.map ev_ok = some false := by decide +kernel
theorem ev_others : (ev_codes.drop 1).all ev_ok = true := by decide +kernel
/-- THE STATEMENT IS EMPTY: what is owed follows from that alone, without a look at the program. This is a finding about the Statement, not a proof of the property; it isn't handed in. -/
theorem ev_empty : Claimed_1_1 ∧ Claimed_1_2 := ⟨fun l _ h _ => (ev_no_launch l h).elim, fun l _ h _ => (ev_no_launch l h).elim⟩
