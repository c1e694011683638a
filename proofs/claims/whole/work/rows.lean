section
/-! The words of tables_1 contradict one another: NoisyCodes$Way.addShifted is said to be static, and to be declared and not static. So no state meets the Statement's premises. This is no proof of the claim: it shows that the claim, as printed, says nothing. -/
def xr_add : MethodName := ⟨"NoisyCodes$Way", "addShifted", "(LNoisyCodes$Field;[I[III)V"⟩
theorem xr_static : Cond.static xr_add ∈ tables_1 := by decide +kernel
theorem xr_declares : Cond.declares xr_add ∈ tables_1 := by decide +kernel
theorem xr_empty {args : Array Value} {s : State} (h : ∀ w ∈ tables_1, w.before args s = true) : False := by
  obtain ⟨m, meth, hn, hm, hs, -⟩ := Cond.declares_spec (h _ xr_declares)
  have h1 : meth.isStatic = true := Cond.static_spec hn hm (h _ xr_static)
  rw [hs] at h1
  cases h1
-- the printed claim out of the contradiction alone, whatever the class answers: it is empty (not handed in: the witness, which would show a start that meets the premises, cannot be proved)
theorem xr_arm (L : Cond) (C S : Nat) (Fr : Array Value → State → List Loc) :
    ArmFor flags0 classFile x code maxLocals ret World_1 tables_1 room_1 Calls_1 rest_1 Pre_1 (fun tb e a s o t => postC L tb e a s o t ∧ Framed s o t (Fr a s) C S) := by
  intro l _ _ _ p e ha hc hk s m args below hf hfit hheap happ hpre
  obtain ⟨-, -, -, -, -, -, -, hp⟩ := (Spec.appliesLoose_iff hf).mp ((Spec.applies_iff_loose hf).mp happ).1
  exact (xr_empty (fun w hw => atoms_spec (ws := Jvm.Cond.code x code maxLocals ret :: tables_1) hp w (List.mem_cons_of_mem _ hw))).elim
theorem xr_says_nothing : Claimed_1_1 ∧ Claimed_1_2 := ⟨xr_arm _ _ _ _, xr_arm _ _ _ _⟩
end
