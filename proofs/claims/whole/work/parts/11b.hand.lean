/-! A static method called by the name of a subclass; new int[4][4]. DRAFT until it has compiled once. -/
section XU
variable {p : Program} {l : Launch} {e : Env} {s : State} {m : MethodId} {args : Array Value} {below : List Frame} {meth : Method} {c : Code} {H : Heap} {locs : List Loc} {cells slots : Nat}
variable {cc : ByteArray} {pc : Nat} {ls : Array Slot} {as : List Nat} {own : String} {D : va_G} {cs : Nat → ClassId} {b base : Nat} {X : List Int32} {A : Nat → Prop} {h h2 : List xi_C} {o : xi_O} {dk dn K0 N0 k n y : Nat} {st rest av : List Value} {qc q : xm_T}
set_option maxHeartbeats 4000000 in
theorem xi_siteU (C0 : xi_Cx p s m args c cc own D cs b X A) (hTb : xi_Tb D cs b base X s) (hAb : ∀ q, A q → base ≤ q) (hJ : xi_Wd D cs b base X A as h H) (hS : va_S A s.heap H locs) (hls : ls.size = c.maxLocals)
    (hq : xm_tab[y]? = some q) (hh : q.2.2.2.2.1 = none) (hd : decode cc pc = .ok (.invokestatic k, 3)) (w1 : (.methodLink own k ⟨own, q.1.name, q.1.desc⟩ : Cond) ∈ xi_gw) (w1b : (.sameMethod own q.1.cls q.1.name q.1.desc : Cond) ∈ xi_gw) (w2 : (.static q.1 : Cond) ∈ xi_gw) (w3 : (.initialized q.1.cls : Cond) ∈ xi_gw) (w4 : (xi_cw q : Cond) ∈ xi_gw)
    {v : Option Value} (hfr : xi_fr qc q = true) (hpl : xi_pl q.1 = true) (hpar : xi_par q.1.desc n = true) (hn : av.length = n) (hcon : xi_Con l D cs b base X y av h (.inl v) h2 dk dn) (hst : st = av.reverse ++ rest) (hsum : (rest.map fun v => v.category).sum ≤ 8) (hcell : cells + dk ≤ K0) (hslot : slots + dn ≤ N0) :
    vx_Run p l e (xi_rm qc K0 N0) s m args below meth c H locs cells slots dk dn (F0 m pc ls (st.map (xi_em as))) (rest.map (xi_em as)) (xi_Qc D cs b base X as H.size (.inl v) h2 (av.map (xi_em as)).toArray) (xi_XC D cs b base X as H.size (.inl v) h2) (xi_A as H.size) := by
  obtain ⟨hx, hb, hown, hts, hnw, hK, hX, hbl, hbA, hA⟩ := C0
  have hpl := xi_pl_ok hpl
  have hst' : (F0 m pc ls (st.map (xi_em as))).stack = (av.map (xi_em as)).reverse ++ rest.map (xi_em as) := by
    show st.map (xi_em as) = _
    rw [hst, List.map_append, List.map_reverse]
  have hcw : xi_wl q = Cond.code q.1 q.2.1 q.2.2.1 q.2.2.2.1 :: xi_gw := by unfold xi_wl xi_cw; rw [hh]
  have hG := xi_goodIn (xi_has_in w4)
  have hM := xi_met (hcon q hq as H.size)
  have hcode : (Cond.code q.1 q.2.1 q.2.2.1 q.2.2.2.1).before args s = true := hts _ (by have h9 := xi_has_in w4; unfold xi_cw at h9; rw [hh] at h9; exact h9)
  have hB : Back l (xi_rm qc K0 N0) p e below s args q.1 3 8 (PreOf (xi_rm qc K0 N0) dk dn (va_Pc (av.map (xi_em as)) (xi_In D cs b base X as h H.size))) (PostOf (xi_Qc D cs b base X as H.size (.inl v) h2) dk dn (xi_A as H.size)) :=
    back_of (bytes := q.2.1) (maxL := q.2.2.1) (ret := q.2.2.2.1) hM (xi_blind _ as h H.size) rfl rfl (xi_fr_ok hfr).1 (xi_fr_ok hfr).2 (pay_in hts hG) (by rw [hcw]; exact List.mem_cons_self) (fun a' U hW => word_at hW (xi_good1 w3).2 (hts _ (xi_has_in w3)))
  obtain ⟨mk, hnamed⟩ := Cond.code_named hcode
  obtain ⟨methM, cM, hmethM, -, -, -, -, -, -, hsigM⟩ := Cond.code_spec hnamed hcode
  have hlen : ∀ sig, parseMethodDescriptor q.1.desc = some sig → (av.map (xi_em as)).length = sig.parameters.length := fun sig h9 => by
    have h8 := of_decide_eq_true hpar
    rw [h9] at h8
    rw [List.length_map, hn]
    exact (Option.some.inj h8).symm
  have hstatic : methM.isStatic = true := Cond.static_spec hnamed hmethM (hts _ (xi_has_in w2))
  obtain ⟨kP, hkP, -⟩ := className_of_methodNamed hnamed
  have hinitP : kP.init = .initialized := Cond.initialized_spec (findClass_of_methodNamed hnamed) hkP (hts _ (xi_has_in w3))
  refine xi_run_of (fun T hT Xs => ?_)
  obtain ⟨vm₁, X₁, hstep₁⟩ := Xs.invokestaticUp hx (own := own) (owner := q.1.cls) (x := ⟨own, q.1.name, q.1.desc⟩) hown (hts _ (xi_has_in w1)) (hts _ (xi_has_in w1b)) hpl hnamed hmethM hstatic hkP hinitP (g := F0 m pc ls (st.map (xi_em as))) rfl (argsL := av.map (xi_em as)) (rest := rest.map (xi_em as)) (hlen _ hsigM) hst' (by rw [hb]; exact hd)
  obtain ⟨v', ⟨U', l2, c2, s2⟩, X', ⟨g', mk', t, L, e1, e2, hq9, h1, hL, h3, h4⟩, hsteps⟩ := hB m meth c ⟨T.setVm vm₁, locs, cells, slots⟩ { F0 m pc ls (st.map (xi_em as)) with stack := rest.map (xi_em as) } (.invokestatic k) mk (av.map (xi_em as)).toArray X₁ rfl hls (by rw [hb]; exact hd) (xi_sum8 (m := m) (pc := pc) (ls := ls) (st := rest) hsum) (X₁.named hnamed) ⟨hcell, hslot, xi_pre hTb hJ hS hAb _ (T.setVm vm₁) hT X₁.warmed⟩
  dsimp only [Pt.U, Pt.locs, Pt.cells, Pt.slots] at X' e1 e2 h1 h3 h4 hsteps
  subst h1; subst h3; subst h4
  exact ⟨v', (T.setVm vm₁).calling g' mk' (av.map (xi_em as)).toArray, t, U', L, hT, X', hL, e1, e2, hq9, fun target h9 => hstep₁ _ fun acts => by rw [doInvoke_state]; exact hsteps.trans h9⟩
end XU
section XV
variable {p : Program} {l : Launch} {e : Env} {R : Room} {s : State} {m : MethodId} {args : Array Value} {below : List Frame} {meth : Method} {c : Code} {H : Heap} {locs : List Loc} {cells slots : Nat} {Q : State → Prop}
variable {cc : ByteArray} {pc : Nat} {ls : Array Slot} {as : List Nat} {nL : Nat} {own : String} {D : va_G} {cs : Nat → ClassId} {b base : Nat} {X : List Int32} {A : Nat → Prop} {h : List xi_C}
def xi_grid (n : Nat) : List xi_C := [.inr (.inr (.inl (1, [some (n + 1), some (n + 2), some (n + 3), some (n + 4)]))), .inl [0, 0, 0, 0], .inl [0, 0, 0, 0], .inl [0, 0, 0, 0], .inl [0, 0, 0, 0]]
theorem xi_inner (cA : ClassId) : Jvm.Free.Multi.innerC cA 4 (defaultValue .int) = vp_cell cA (4, .inl (fun j => ([0, 0, 0, 0] : List Int32).getD j 0)) := by
  show ({ cls := cA, slots := Array.replicate 4 (Value.int 0), vm := .none } : Cell) = { cls := cA, slots := arrSlots 4 (fun j => ([0, 0, 0, 0] : List Int32).getD j 0), vm := .none }
  congr 1
theorem xi_arrV_eq (cA : ClassId) (n : Nat) (f g : Nat → Value) (h : ∀ j, j < n → f j = g j) : arrV cA n f = arrV cA n g := by
  have h1 : (fun j : Fin n => f j.val) = fun j : Fin n => g j.val := funext (fun j => h j.val j.isLt)
  show ({ cls := cA, slots := Array.ofFn (n := n) fun j => f j.val, vm := .none } : Cell) = { cls := cA, slots := Array.ofFn (n := n) fun j => g j.val, vm := .none }
  rw [h1]
theorem xi_outerI (cA : ClassId) (M N : Nat) : ∀ i, Jvm.Free.Multi.outerC cA M N i = arrV cA M (fun j => if j < i then .ref (N + 1 + j) else .null)
  | 0 => by
    show ({ cls := cA, slots := Array.replicate M .null, vm := .none } : Cell) = _
    rw [arrV_new]
    exact xi_arrV_eq _ _ _ _ (fun j _ => by simp)
  | i + 1 => by
    show (Jvm.Free.Multi.outerC cA M N i).setSlot i (.ref (N + 1 + i)) = _
    rw [xi_outerI cA M N i, arrV_store]
    refine xi_arrV_eq _ _ _ _ (fun j _ => ?_)
    unfold updV
    by_cases h : j = i
    · subst h
      rw [if_pos rfl, if_pos (Nat.lt_succ_self j)]
    · rw [if_neg h]
      show (if j < i then Value.ref (N + 1 + j) else .null) = _
      by_cases h2 : j < i
      · rw [if_pos h2, if_pos (by omega)]
      · rw [if_neg h2, if_neg (by omega)]
theorem xi_outer (cA : ClassId) (N : Nat) (f : Nat → Option Nat) (hf : ∀ j, j < 4 → f j = some (N + 1 + j)) : Jvm.Free.Multi.outerC cA 4 N 4 = vp_cell cA (4, .inr (.inr (.inr (.inr f)))) := by
  rw [vp_cell_q, xi_outerI]
  refine xi_arrV_eq _ _ _ _ (fun j hj => ?_)
  rw [if_pos hj, hf j hj]
  rfl
set_option maxHeartbeats 4000000 in
theorem xi_mna_ok (C0 : xi_Cx p s m args c cc own D cs b X A) (hAO : xi_AOA s) (hAb : ∀ q, A q → base ≤ q) (hJ : xi_Wd D cs b base X A as h H) (hS : va_S A s.heap H locs) {k : Nat} {lv : xi_L} {st : List Value} (hd : decode cc pc = .ok (.multianewarray k 2, 4))
    (w1 : (.classLink own k "[[I" : Cond) ∈ xi_gw) (w2 : (.arrayClass .int : Cond) ∈ xi_gw) (hwf : xi_wf lv (.int 4 :: .int 4 :: st) h = true) (hcell : cells + 5 ≤ R.cells) (hslot : slots + 20 ≤ R.slots) (hl : lv_has ls nL (xi_el as lv))
    (kk : ∀ (z : List Nat) (H1 : Heap), xi_Wd D cs b base X A (as ++ z) (h ++ xi_grid h.length) H1 → va_S A s.heap H1 locs → lv_has ls nL (xi_el (as ++ z) lv) → W p l e R s m args below meth c H1 locs (cells + 5) (slots + 20) Q (F0 m (pc + 4) ls ((Value.ref h.length :: st).map (xi_em (as ++ z))))) : W p l e R s m args below meth c H locs cells slots Q (F0 m pc ls ((Value.int 4 :: .int 4 :: st).map (xi_em as))) := by
  have hJ0 := hJ
  obtain ⟨hx, hb, hown, hts, hnw, hK, hX, hbl, hbA, hA⟩ := C0
  obtain ⟨hlen, ha0, hh0, hbase, hP, hD⟩ := hJ
  unfold xi_wf at hwf
  obtain ⟨hwf, hwh⟩ := Bool.and_eq_true_iff.mp hwf
  obtain ⟨hwl, hws⟩ := Bool.and_eq_true_iff.mp hwf
  have hws : st.all (xi_wfv h.length) = true := by simpa [xi_wfv] using hws
  have h0 : 0 < h.length := (List.getElem?_eq_some_iff.mp hh0).1
  have e4 : (4 : Int32).toNatClampNeg = 4 := by decide
  intro T hT Xs
  obtain ⟨vm₁, cA, comp, -, fA, fC, hO, hI, X', step⟩ := Xs.multianewarray2F hx (ty := .int) hown (by rw [show ("[" ++ (FieldType.array .int).toString) = "[[I" by decide]; exact hts _ w1) hAO (hts _ (xi_has_in w2)) (g := F0 m pc ls (.int 4 :: .int 4 :: st.map (xi_em as))) rfl (by rw [hb]; exact hd) (n := 4) (k := 4) rfl (by decide) (by decide) (by decide) (by decide) (by decide) rfl rfl (by rw [e4]; omega) (by rw [e4]; omega)
  rw [e4] at X' step
  have X' := (show cells + 1 + 4 = cells + 5 by omega) ▸ (show slots + 4 + 4 * 4 = slots + 20 by omega) ▸ X'
  have hc0 : s.vm.findClass ("[" ++ (FieldType.int).toString) = some (cs 0) := (hK.2 0 (cs 0, .int) rfl).2
  have hc3 : s.vm.findClass ("[" ++ (FieldType.array .int).toString) = some (cs 3) := (hK.2 3 (cs 3, .array .int) rfl).2
  have ec0 : comp = cs 0 := Option.some.inj (fC.symm.trans hc0)
  have ec3 : cA = cs 3 := Option.some.inj (fA.symm.trans hc3)
  subst ec0
  subst ec3
  have hTh : (T.setVm vm₁).heap = H := hT
  obtain ⟨f1, f2, -, -⟩ := Jvm.Free.Multi.fill_facts (T.setVm vm₁) (cs 3) (cs 0) 4 4 (defaultValue .int) 4
  have hold : ∀ x : Nat, x < H.size → (Jvm.Free.Multi.fill (T.setVm vm₁) (cs 3) (cs 0) 4 4 (defaultValue .int) 4).heap[x]? = H[x]? := fun x hx9 => by
    have := Jvm.Free.Multi.fill_old (T.setVm vm₁) (cs 3) (cs 0) 4 4 (defaultValue .int) (a := x) (by rw [hTh]; exact hx9) 4
    rw [hTh] at this
    exact this
  have hrow : ∀ j : Nat, j < 4 → (Jvm.Free.Multi.fill (T.setVm vm₁) (cs 3) (cs 0) 4 4 (defaultValue .int) 4).heap[H.size + 1 + j]? = some (Jvm.Free.Multi.innerC (cs 0) 4 (defaultValue .int)) := fun j hj => by
    have := Jvm.Free.Multi.fill_inner (T.setVm vm₁) (cs 3) (cs 0) 4 4 (defaultValue .int) 4 j hj
    rw [hTh] at this
    exact this
  rw [hTh] at f1 f2
  generalize Jvm.Free.Multi.fill (T.setVm vm₁) (cs 3) (cs 0) 4 4 (defaultValue .int) 4 = F at X' step f1 f2 hold hrow
  have hgz : ∀ j, j < 5 → (as ++ [H.size, H.size + 1, H.size + 2, H.size + 3, H.size + 4]).getD (h.length + j) 0 = H.size + j := fun j hj => by
    rw [List.getD_eq_getElem?_getD, ← hlen, List.getElem?_append_right (Nat.le_add_right _ _), Nat.add_sub_cancel_left]
    rcases (show j = 0 ∨ j = 1 ∨ j = 2 ∨ j = 3 ∨ j = 4 by omega) with rfl | rfl | rfl | rfl | rfl <;> rfl
  have hlq : lv_has ls nL (xi_el (as ++ [H.size, H.size + 1, H.size + 2, H.size + 3, H.size + 4]) lv) := by rw [xi_el_app (by rw [hlen]; exact hwl)]; exact hl
  have hpush : xi_ws cs (as ++ [H.size, H.size + 1, H.size + 2, H.size + 3, H.size + 4]) (h ++ xi_grid h.length) = xi_ws cs as h ++ ([H.size, H.size + 1, H.size + 2, H.size + 3, H.size + 4].zip (xi_grid h.length)).map (fun q => (q.1, xi_ea cs (as ++ [H.size, H.size + 1, H.size + 2, H.size + 3, H.size + 4]) q.2)) := xi_ws_push hlen h0 hwh
  have hAs : ∀ j, A (H.size + j) := fun j => hA _ (Nat.le_trans hS.1 (Nat.le_add_right _ _))
  have hP0 : va_P D xi_cl (xi_ws cs as h) F.heap := hP.kept (fun k9 x hx9 => hold x.1 ((hP k9 x hx9).lt))
  have hrw : ∀ j, j < 4 → F.heap[H.size + 1 + j]? = some (vp_cell (cs 0) (4, .inl (fun j => ([0, 0, 0, 0] : List Int32).getD j 0))) := fun j hj => by rw [hrow j hj, xi_inner]
  have hot := xi_outer (cs 3) H.size (fun j => (([some (h.length + 1), some (h.length + 2), some (h.length + 3), some (h.length + 4)] : List (Option Nat)).getD j none).map (fun i => (as ++ [H.size, H.size + 1, H.size + 2, H.size + 3, H.size + 4]).getD i 0)) (fun j hj => by
    rcases (show j = 0 ∨ j = 1 ∨ j = 2 ∨ j = 3 by omega) with rfl | rfl | rfl | rfl
    · exact congrArg some (hgz 1 (by decide))
    · exact congrArg some (hgz 2 (by decide))
    · exact congrArg some (hgz 3 (by decide))
    · exact congrArg some (hgz 4 (by decide)))
  have hP1 : va_P D xi_cl (([H.size, H.size + 1, H.size + 2, H.size + 3, H.size + 4].zip (xi_grid h.length)).map (fun q => (q.1, xi_ea cs (as ++ [H.size, H.size + 1, H.size + 2, H.size + 3, H.size + 4]) q.2))) F.heap := fun k9 x hx9 => by
    have h9 : k9 < 5 := (List.getElem?_eq_some_iff.mp hx9).1
    rcases (show k9 = 0 ∨ k9 = 1 ∨ k9 = 2 ∨ k9 = 3 ∨ k9 = 4 by omega) with rfl | rfl | rfl | rfl | rfl
    · cases hx9
      show F.heap[H.size]? = some _
      rw [f2]
      exact congrArg some hot
    · cases hx9
      exact hrw 0 (by decide)
    · cases hx9
      exact hrw 1 (by decide)
    · cases hx9
      exact hrw 2 (by decide)
    · cases hx9
      exact hrw 3 (by decide)
  have hx1 : ∀ (k9 : Nat) (x : Nat × va_E), (([H.size, H.size + 1, H.size + 2, H.size + 3, H.size + 4].zip (xi_grid h.length)).map (fun q => (q.1, xi_ea cs (as ++ [H.size, H.size + 1, H.size + 2, H.size + 3, H.size + 4]) q.2)))[k9]? = some x → x.1 = H.size + k9 := fun k9 x hx9 => by
    have h9 : k9 < 5 := (List.getElem?_eq_some_iff.mp hx9).1
    rcases (show k9 = 0 ∨ k9 = 1 ∨ k9 = 2 ∨ k9 = 3 ∨ k9 = 4 by omega) with rfl | rfl | rfl | rfl | rfl <;> (cases hx9; rfl)
  have hD1 : va_D A (([H.size, H.size + 1, H.size + 2, H.size + 3, H.size + 4].zip (xi_grid h.length)).map (fun q => (q.1, xi_ea cs (as ++ [H.size, H.size + 1, H.size + 2, H.size + 3, H.size + 4]) q.2))) :=
    ⟨fun i j x y hi hj hxy => by have g1 := hx1 i x hi; have g2 := hx1 j y hj; omega, fun k9 x hx9 => by rw [hx1 k9 x hx9]; exact hAs k9⟩
  have hJ1 : xi_Wd D cs b base X A (as ++ [H.size, H.size + 1, H.size + 2, H.size + 3, H.size + 4]) (h ++ xi_grid h.length) F.heap := by
    refine ⟨by rw [List.length_append, List.length_append, hlen]; rfl, by rw [List.getElem?_append_left (by omega)]; exact ha0, by rw [List.getElem?_append_left h0]; exact hh0, fun a ha => ?_, by rw [hpush]; exact hP0.app hP1, by rw [hpush]; exact hD.app hD1 (fun i j x y hi hj => by have g1 := (hP i x hi).lt; have g2 := hx1 j y hj; omega)⟩
    rw [List.drop_append_of_le_length (by omega)] at ha
    rcases List.mem_append.mp ha with ha | ha
    · exact hbase a ha
    · simp only [List.mem_cons, List.not_mem_nil, or_false] at ha
      rcases ha with rfl | rfl | rfl | rfl | rfl
      · exact hAb _ (hAs 0)
      · exact hAb _ (hAs 1)
      · exact hAb _ (hAs 2)
      · exact hAb _ (hAs 3)
      · exact hAb _ (hAs 4)
  have hS1 : va_S A s.heap F.heap locs := ⟨Nat.le_trans hS.1 (by rw [f1]; omega), fun q hq hn => by rw [hold q (Nat.lt_of_lt_of_le hq hS.1)]; exact hS.2.1 q hq hn, hS.2.2⟩
  have hk := kk _ F.heap hJ1 hS1 hlq
  rw [List.map_cons, xi_em_apps (by rw [hlen]; exact hws)] at hk
  have e9 : xi_em (as ++ [H.size, H.size + 1, H.size + 2, H.size + 3, H.size + 4]) (.ref h.length) = .ref H.size := congrArg Value.ref (hgz 0 (by decide))
  rw [e9] at hk
  obtain ⟨t2, a1, b1⟩ := hk F rfl X'
  refine ⟨t2, step t2 ?_, b1⟩
  rw [hT]
  exact a1
end XV
