section
/-! The law's entry is told by the word for a method WITHOUT a table of handlers; in the law's own class file the method has one handler. So no launch has what the claim takes as given. -/
/-- the law's class file has this code, with one handler: from 246 to 258, at 261, for the class of entry 111 -/
theorem em_with : classFile.hasCodeWith x code maxLocals ret [(246, 258, 261, 111)] = true := by decide +kernel
/-- .. and so not this code without handlers -/
theorem em_none : classFile.hasCode x code maxLocals ret = false := by decide +kernel
/-- the 39 methods behind it that the fallen row speaks of are as the files have them -/
theorem em_rest : List.all (List.take 39 (List.drop 1 ((Jvm.D.headSpec (Jvm.Cond.code x code maxLocals ret :: tables_1) room_1).pre.codes ++ (Jvm.D.headSpec (Jvm.Cond.code x code maxLocals ret :: tables_1) room_1).post.codes))) (fun y => (launch0.file? y.1.cls).any fun f => f.hasCode y.1 y.2.1 y.2.2.1 y.2.2.2) = true := by decide +kernel
theorem em_first : (x, code, maxLocals, ret) ∈ (Jvm.D.headSpec (Jvm.Cond.code x code maxLocals ret :: tables_1) room_1).pre.codes ++ (Jvm.D.headSpec (Jvm.Cond.code x code maxLocals ret :: tables_1) room_1).post.codes :=
  List.mem_append_left _ (List.mem_append_left _ (List.mem_singleton.mpr rfl))
/-- no launch has it -/
theorem em_lists (l : Launch) : ¬ Jvm.D.Lists l classFile x code maxLocals ret tables_1 room_1 := by
  rintro ⟨-, hf, ⟨hc, -⟩, -⟩
  have h := hc _ em_first
  rw [show l.file? x.cls = some classFile from hf, Option.any_some] at h
  exact Bool.noConfusion (em_none.symm.trans h)
/-- there is no start that the Statement allows: no witness -/
theorem em_noStart : ¬ WitnessClaimed_1 := by
  rintro ⟨p, e, s, m, args, below, h⟩
  exact em_lists _ h.1
/-- both claims, because nothing meets what they take as given -/
theorem em_claims : Claimed_1_1 ∧ Claimed_1_2 :=
  ⟨fun l _ h _ => absurd h (em_lists l), fun l _ h _ => absurd h (em_lists l)⟩
end
section
/-! The owed statement, as it is printed. It holds because nothing meets what it takes as given (01.empty): THIS SAYS NOTHING OF THE PROGRAM. REPORT.md, 'STATEMENT'. -/
theorem i_vc : Claimed_1_1 ∧ Claimed_1_2 := em_claims
end
