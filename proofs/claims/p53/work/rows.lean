section
/-! NOT A PROOF OF p53. These rows show that the printed statement is EMPTY: its first premise (no exception table at WordbeforeLaw.law) holds in no launch that has the law's class file, whose law has an exception table of two rows. Evidence for REPORT.md, TRANSLATOR 2; not for handing in. -/
theorem ev_noCode : ClassFile.Facts.File.hasCode classFile x code maxLocals ret = false := by decide +kernel

theorem ev_mem (cc : Cond) (ts : List Cond) (room : Room) (y : MethodName × ByteArray × Nat × Option FieldType) (h : y ∈ cc.codes) :
    y ∈ (Jvm.D.headSpec (cc :: ts) room).pre.codes ++ (Jvm.D.headSpec (cc :: ts) room).post.codes :=
  List.mem_append_left _ (List.mem_append_left _ h)

theorem ev_noLists (l : Launch) : ¬ Jvm.D.Lists l classFile x code maxLocals ret tables_1 room_1 := by
  intro h
  obtain ⟨-, hf, hF, -⟩ := h
  have h1 : ((l.file? x.cls).any fun f => f.hasCode x code maxLocals ret) = true :=
    hF.1 (x, code, maxLocals, ret) (ev_mem _ _ _ _ (List.mem_singleton.mpr rfl))
  rw [hf, Option.any_some, ev_noCode] at h1
  exact absurd h1 (by decide)

theorem ev_noStart : ¬ WitnessClaimed_1 := by
  intro h
  obtain ⟨p, e, s, m, args, below, h⟩ := h
  exact ev_noLists launch0 h.1

theorem i_vc : Claimed_1_1 ∧ Claimed_1_2 :=
  ⟨fun l _ hL _ => absurd hL (ev_noLists l), fun l _ hL _ => absurd hL (ev_noLists l)⟩
end
