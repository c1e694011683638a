/-! Contracts for every depth, out of the induction. Behind the checks of the tables (xk_F). DRAFT until it has compiled once. -/
theorem xi_args_em (as : List Nat) : ∀ (av : List Value) (i : Nat), lv_args i (av.map (xi_em as)) = xi_el as (lv_args i av) := by
  intro av
  induction av with
  | nil => intro i; rfl
  | cons v av ih =>
    intro i
    show (i, xi_em as v) :: lv_args (if (xi_em as v).category = 2 then i + 2 else i + 1) (av.map (xi_em as)) = (i, xi_em as v) :: xi_el as (lv_args (if v.category = 2 then i + 2 else i + 1) av)
    rw [xi_em_cat, ih]
theorem xi_sl_len : ∀ vs : List Value, (lg_sl vs).length = (vs.map fun v => v.category).sum := by
  intro vs
  induction vs with
  | nil => rfl
  | cons v vs ih =>
    show ((if v.category = 2 then [Slot.val v, .second] else [.val v]) ++ lg_sl vs).length = v.category + (vs.map fun v => v.category).sum
    rw [List.length_append, ih]
    cases v <;> rfl
theorem xi_ws_mem {cs : Nat → ClassId} {as : List Nat} {h : List xi_C} {k : Nat} {q : Nat × va_E} (hk : (xi_ws cs as h)[k]? = some q) : q.1 ∈ as.drop 1 := by
  rw [xi_ws_get] at hk
  split at hk
  · rename_i a c ha hc
    cases hk
    exact List.mem_of_getElem? (i := k) (by rw [List.getElem?_drop, Nat.add_comm]; exact ha)
  · cases hk
section XQ
variable {l : Launch} {D : va_G} {cs : Nat → ClassId} {b base : Nat} {X : List Int32}
set_option maxHeartbeats 4000000 in
theorem xi_body (hl : l.stackTraces = false) {q : xm_T} {mt : xi_M} (hM : xi_okM q mt) {C : xi_Rel} (IH : ∀ y av h o h2 K N, C y av h o h2 K N → xi_Con l D cs b base X y av h o h2 K N)
    {S : Spec} {p : Program} {e : Env} {s : State} {m : MethodId} {args : Array Value} {below : List Frame} {meth : Method} {c : Code} {s₁ : State} (B : BodyLoose p l q.1 S q.2.1 q.2.2.1 q.2.2.2.1 e s m args below meth c s₁) (hml : c.maxLocals = q.2.2.1)
    (htb : match q.2.2.2.2.1 with
      | none => ∀ x ∈ c.exceptionTable.toList, False
      | some hh => c.exceptionTable.toList = tableOf hh) (hts : ∀ w ∈ xi_gw, w.before args s = true) {K N : Nat} (hS : S.room = xi_rm q K N) {av : List Value} {h h2 : List xi_C} {o : xi_O} {as : List Nat} {sz f : Nat} (hP : va_Pc (av.map (xi_em as)) (xi_In D cs b base X as h sz) args s)
    (hle : (av.map fun v => v.category).sum ≤ q.2.2.1) (hgo : xi_go xi_ks xi_vt mt C K N (fun o1 h1 => o1 = o ∧ h1 = h2) f 0 0 (0, lv_args 0 av, [], h)) :
    W p l e S.room s m args below meth c s.heap [] 0 0 (vx_MQ below (xi_Qc D cs b base X as sz o h2) (xi_XC D cs b base X as sz o h2) args s K N (xi_A as sz)) (entryFrame m args q.2.2.1) := by
  obtain ⟨ha, hsz, hJ, hTb⟩ := hP
  subst ha
  subst hsz
  rw [lg_entry_eq, hS]
  have hAb : ∀ q, xi_A as s.heap.size q → base ≤ q := fun q hq => hq.elim (hJ.2.2.2.1 q) (fun z => Nat.le_trans hTb.2.2.2.1 z)
  have C0 : xi_Cx p s m (av.map (xi_em as)).toArray c q.2.1 q.1.cls D cs b X (xi_A as s.heap.size) := ⟨B.exec, B.bytes, findClass_of_methodNamed B.named, hts, hTb.2.2.2.2.1, hTb.1, hTb.2.1, Nat.lt_of_lt_of_le hTb.2.2.1 hTb.2.2.2.1, fun hA => by have h1 := hAb b hA; have h2 := hTb.2.2.1; omega, fun q hq => Or.inr hq⟩
  have hJ1 : xi_Wd D cs b base X (xi_A as s.heap.size) as h s.heap := by
    obtain ⟨g1, g2, g3, g4, g5, g6⟩ := hJ
    exact ⟨g1, g2, g3, g4, g5, ⟨g6.1, fun k q hk => Or.inl (xi_ws_mem hk)⟩⟩
  have hlv : lv_has ((lg_sl (av.map (xi_em as)) ++ List.replicate (q.2.2.1 - (lg_sl (av.map (xi_em as))).length) Slot.unset).toArray) q.2.2.1 (xi_el (as ++ []) (lv_args 0 av)) := by
    rw [List.append_nil, ← xi_args_em]
    exact lv_entry _ (by rw [xi_sl_len, xi_em_sum]; exact hle)
  have hhand : match q.2.2.2.2.1 with
      | none => mt.2.1 = [] ∧ ∀ x ∈ c.exceptionTable.toList, False
      | some hh => xi_okh q.1.cls hh mt.2.1 ∧ c.exceptionTable.toList = tableOf hh := by
    have h1 := hM.2.1
    cases hh : q.2.2.2.2.1 with
    | none => rw [hh] at h1 htb; exact ⟨h1, htb⟩
    | some h9 => rw [hh] at h1 htb; exact ⟨h1, htb⟩
  have hk := xi_go_ok (e := e) (below := below) hl IH hM.1 hhand B.returns hM.2.2 C0 hTb hAb hml B.notSynchronized (name_of_methodNamed B.named B.method).1 f 0 0 0 (lv_args 0 av) [] h [] s.heap [] _ hgo hlv (by rw [List.append_nil]; exact hJ1) va_S.rf (Nat.zero_le _) (Nat.zero_le _)
  exact hk
theorem xi_con (hl : l.stackTraces = false) : ∀ (d y : Nat) (av : List Value) (h : List xi_C) (o : xi_O) (h2 : List xi_C) (K N : Nat), xi_at d y av h o h2 K N → xi_Con l D cs b base X y av h o h2 K N := by
  intro d
  induction d with
  | zero => intro y av h o h2 K N e; exact e.elim
  | succ d ih =>
    intro y av h o h2 K N e q hq as sz
    obtain ⟨mt, hmt, hle, f, e⟩ := e
    have hM := xi_F_at xk_F hq hmt
    have ht := xi_tabT y
    unfold xi_tabB at ht
    rw [hq] at ht
    simp only [Bool.and_eq_true] at ht
    obtain ⟨⟨⟨⟨t1, t2⟩, t3⟩, t4⟩, t5⟩ := ht
    have hle : (av.map fun v => v.category).sum ≤ q.2.2.1 := by rw [show q.2.2.1 = xl_tab.getD y 0 by simpa using t5]; exact hle
    cases hh : q.2.2.2.2.1 with
    | none =>
      have hcw : xi_wl q = Cond.code q.1 q.2.1 q.2.2.1 q.2.2.2.1 :: xi_gw := by unfold xi_wl xi_cw; rw [hh]
      exact vx_ofW t3 hcw (fun p e9 s m args below meth c s₁ B hml ht9 hP => xi_body hl hM ih B hml (by rw [hh]; exact ht9) (fun w hw => atoms_spec (ws := xi_wl q) B.pre w (List.mem_cons_of_mem _ hw)) rfl hP hle e)
    | some hh9 =>
      have hcw : xi_wl q = Cond.codeWith q.1 q.2.1 q.2.2.1 q.2.2.2.1 hh9 :: xi_gw := by unfold xi_wl xi_cw; rw [hh]
      exact vx_ofWH t3 hcw (fun p e9 s m args below meth c s₁ B hml hP => xi_body hl hM ih B hml (by rw [hh]; exact vx_table (x := q.1) B (atoms_spec (ws := xi_wl q) B.pre _ (by rw [hcw]; exact List.mem_cons_self))) (fun w hw => atoms_spec (ws := xi_wl q) B.pre w (List.mem_cons_of_mem _ hw)) rfl hP hle e)
end XQ
