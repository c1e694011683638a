/-! One step of the little machine is a step of the machine: new cells. DRAFT until it has compiled once. -/
theorem xi_em_def (as : List Nat) (ty : FieldType) : xi_em as (defaultValue ty) = defaultValue ty := by cases ty <;> rfl
theorem xi_rep (n : Nat) : (fun j => (List.replicate n (0 : Int32)).getD j 0) = fun _ => 0 := by
  funext j
  rw [List.getD_eq_getElem?_getD, List.getElem?_replicate]
  split <;> rfl
theorem xi_repL (n : Nat) : (fun j => (List.replicate n (0 : Int64)).getD j 0) = fun _ => 0 := by
  funext j
  rw [List.getD_eq_getElem?_getD, List.getElem?_replicate]
  split <;> rfl
theorem xi_repR (as : List Nat) (n : Nat) : (fun j => ((List.replicate n (none : Option Nat)).getD j none).map (fun q => as.getD q 0)) = fun _ => none := by
  funext j
  rw [List.getD_eq_getElem?_getD, List.getElem?_replicate]
  split <;> rfl
def xi_okn (own : String) (i : Instr) (a b : Nat) : Prop := match i with
  | .new k => b = 0 → ∃ q, xi_cl[a]? = some q ∧ Cond.classLink own k q.1 ∈ xi_gw
  | .newarray .int => Cond.arrayClass .int ∈ xi_gw
  | .newarray .long => Cond.arrayClass .long ∈ xi_gw
  | .anewarray k => a = 0 ∧ Cond.classLink own k "NoisyCodes$Way" ∈ xi_gw
  | .multianewarray k j => j = 2 ∧ Cond.classLink own k "[[I" ∈ xi_gw ∧ Cond.arrayClass .int ∈ xi_gw
  | _ => True
section XN
variable {p : Program} {l : Launch} {e : Env} {R : Room} {s : State} {m : MethodId} {args : Array Value} {below : List Frame} {meth : Method} {c : Code} {H : Heap} {locs : List Loc} {cells slots : Nat} {Q : State → Prop}
variable {cc : ByteArray} {pc : Nat} {ls : Array Slot} {as : List Nat} {nL : Nat} {own : String} {D : va_G} {cs : Nat → ClassId} {b base : Nat} {X : List Int32} {A : Nat → Prop} {h : List xi_C}
-- the world with one cell more
theorem xi_Wd.push (hJ : xi_Wd D cs b base X A as h H) (hwf : h.all (xi_wfc h.length) = true) (hAb : ∀ q, A q → base ≤ q) {q : Nat} {c1 : xi_C} {ev : va_E} {H1 : Heap} (he : xi_ea cs (as ++ [q]) c1 = ev)
    (hP1 : va_P D xi_cl (xi_ws cs as h ++ [(q, ev)]) H1) (hD1 : va_D A (xi_ws cs as h ++ [(q, ev)])) : xi_Wd D cs b base X A (as ++ [q]) (h ++ [c1]) H1 := by
  obtain ⟨hlen, ha0, hh0, hbase, hP, hD⟩ := hJ
  subst he
  have h0 : 0 < h.length := (List.getElem?_eq_some_iff.mp hh0).1
  have hpush : xi_ws cs (as ++ [q]) (h ++ [c1]) = xi_ws cs as h ++ [(q, xi_ea cs (as ++ [q]) c1)] := xi_ws_push hlen h0 hwf
  have hAq : A q := hD1.2 (xi_ws cs as h).length (q, xi_ea cs (as ++ [q]) c1) (by rw [List.getElem?_append_right (Nat.le_refl _), Nat.sub_self]; rfl)
  refine ⟨by rw [List.length_append, List.length_append, hlen]; rfl, by rw [List.getElem?_append_left (by omega)]; exact ha0, by rw [List.getElem?_append_left h0]; exact hh0, fun a ha => ?_, by rw [hpush]; exact hP1, by rw [hpush]; exact hD1⟩
  rw [List.drop_append_of_le_length (by omega)] at ha
  rcases List.mem_append.mp ha with ha | ha
  · exact hbase a ha
  · rw [List.mem_singleton] at ha
    subst ha
    exact hAb _ hAq
set_option maxHeartbeats 4000000 in
theorem xi_new_ok (C0 : xi_Cx p s m args c cc own D cs b X A) (hAO : va_AO "NoisyCodes$Way" s) (hAb : ∀ q, A q → base ≤ q) (hJ : xi_Wd D cs b base X A as h H) (hS : va_S A s.heap H locs) {i : Instr} {a1 b1 dk dn : Nat} {lv : xi_L} {st st' : List Value} {h' : List xi_C} (hd : decode cc pc = .ok (i, xi_len i))
    (hi : ∀ k j, i ≠ .multianewarray k j) (hk : xi_okn own i a1 b1) (hwf : xi_wf lv st h = true) (h1 : xi_new xi_ks i a1 b1 st h = some (st', h', dk, dn)) (hcell : cells + dk ≤ R.cells) (hslot : slots + dn ≤ R.slots) (hl : lv_has ls nL (xi_el as lv))
    (kk : ∀ (z : List Nat) (H1 : Heap), xi_Wd D cs b base X A (as ++ z) h' H1 → va_S A s.heap H1 locs → lv_has ls nL (xi_el (as ++ z) lv) → W p l e R s m args below meth c H1 locs (cells + dk) (slots + dn) Q (F0 m (pc + xi_len i) ls (st'.map (xi_em (as ++ z))))) : W p l e R s m args below meth c H locs cells slots Q (F0 m pc ls (st.map (xi_em as))) := by
  have hJ0 := hJ
  obtain ⟨hx, hb, hown, hts, hnw, hK, hX, hbl, hbA, hA⟩ := C0
  obtain ⟨hlen, ha0, hh0, hbase, hP, hD⟩ := hJ
  unfold xi_wf at hwf
  obtain ⟨hwf, hwh⟩ := Bool.and_eq_true_iff.mp hwf
  obtain ⟨hwl, hws⟩ := Bool.and_eq_true_iff.mp hwf
  have hlq : ∀ z : List Nat, lv_has ls nL (xi_el (as ++ z) lv) := fun z => by rw [xi_el_app (by rw [hlen]; exact hwl)]; exact hl
  have hgq : ∀ q : Nat, (as ++ [q]).getD h.length 0 = q := fun q => by
    rw [List.getD_eq_getElem?_getD, ← hlen, List.getElem?_append_right (Nat.le_refl _), Nat.sub_self]
    rfl
  unfold xi_new at h1
  split at h1
  -- new
  · rename_i k
    cases hb1 : (b1 == 0) with
    | false => rw [hb1] at h1; cases h1
    | true =>
      rw [hb1] at h1
      simp only [cond_true] at h1
      split at h1
      · rename_i kx hkx
        cases h1
        obtain ⟨r, hr, hk⟩ := hk (by simpa using hb1)
        · obtain ⟨hin, hty0, hln, -, hinst, hini⟩ := xi_clOk a1 r hr
          have hks : xi_ks.getD a1 [] = kx := by rw [List.getD_eq_getElem?_getD, hkx]; rfl
          rw [hks] at hty0 hln
          have hall : ∀ k, k < r.2.2 → parseFieldDescriptor (r.2.1 k).2.2.1 = some (((kx[k]?).map (fun q => q.1)).getD .int) := fun k hk9 => by
            obtain ⟨ty9, dv9, h8, h9, -⟩ := hty0 k hk9
            rw [h8]
            exact h9
          refine va_new (ci := a1) (fs := kx.map (fun q => q.2)) (C := r.1) (T := r.2.1) (N := r.2.2) hx hb hts hin _ hall hown (hts _ hk) (hts _ hinst) (hts _ hini) hK hP hD hS hA hr (fun j hj => ?_) hcell (by rw [← hln]; exact hslot) hd (fun q H1 hP1 hD1 hS1 => ?_)
          · obtain ⟨ty9, dv9, h8, -, h9⟩ := hty0 j hj
            rw [h8]
            subst h9
            unfold vp_V
            rw [List.getD_eq_getElem?_getD, List.getElem?_map, h8]
            rfl
          · have := kk [q] H1 (hJ0.push hwh hAb (by
              show (Sum.inr (a1, (kx.map (fun q => q.2)).map (xi_em (as ++ [q]))) : va_E) = Sum.inr (a1, kx.map (fun q => q.2))
              congr 2
              rw [List.map_map]
              apply List.map_congr_left
              intro w hw
              obtain ⟨j, hj⟩ := List.getElem?_of_mem hw
              have hjl : j < r.2.2 := by rw [← hln]; exact (List.getElem?_eq_some_iff.mp hj).1
              obtain ⟨ty9, dv9, h8, -, h9⟩ := hty0 j hjl
              cases hj.symm.trans h8
              show xi_em _ dv9 = dv9
              subst h9
              exact xi_em_def _ _) hP1 hD1) hS1 (hlq [q])
            rw [List.map_cons, xi_em_apps (by rw [hlen]; exact hws)] at this
            have e9 : xi_em (as ++ [q]) (.ref h.length) = .ref q := by show Value.ref _ = Value.ref _; rw [hgq]
            rw [e9, hln] at this
            exact this
      · cases h1
  -- newarray int
  · split at h1
    · rename_i z st1 x9
      cases hz : (!decide (z < 0) && decide (z.toNatClampNeg ≤ 1000)) with
      | false => rw [hz] at h1; cases h1
      | true =>
        rw [hz] at h1
        cases h1
        simp only [Bool.and_eq_true, Bool.not_eq_true', decide_eq_false_iff_not, decide_eq_true_eq] at hz
        refine va_newa (atype := .int) (ty := .int) (a0 := (z.toNatClampNeg, .inl (fun _ => 0))) hx hb (hts _ (xi_has_in hk)) rfl hK hP hD hS hA (fun _ => rfl) hz.1 rfl (by have := hz.2; show z.toNatClampNeg * componentBytes .int ≤ 536870912; have e4 : componentBytes .int = 4 := rfl; rw [e4]; omega) hcell hslot hd (fun q cA H1 hK1 hP1 hD1 hS1 => ?_)
        have hcA : cA = cs 0 := by
          have h8 : s.vm.findClass ("[" ++ (FieldType.int).toString) = some cA := (hK1.2 4 (cA, .int) rfl).2
          have h9 : s.vm.findClass ("[" ++ (FieldType.int).toString) = some (cs 0) := (hK.2 0 (cs 0, .int) rfl).2
          exact Option.some.inj (h8.symm.trans h9)
        subst hcA
        have := kk [q] H1 (hJ0.push hwh hAb (by
          show (Sum.inl (cs 0, (List.replicate z.toNatClampNeg (0 : Int32)).length, Sum.inl (fun j => (List.replicate z.toNatClampNeg (0 : Int32)).getD j 0)) : va_E) = _
          rw [xi_rep, List.length_replicate]) hP1 hD1) hS1 (hlq [q])
        rw [List.map_cons, xi_em_apps (by rw [hlen]; exact (by rw [List.all_cons] at hws; exact (Bool.and_eq_true_iff.mp hws).2))] at this
        have e9 : xi_em (as ++ [q]) (.ref h.length) = .ref q := by show Value.ref _ = Value.ref _; rw [hgq]
        rw [e9] at this
        exact this
    · cases h1
  -- newarray long
  · split at h1
    · rename_i z st1 x9
      cases hz : (!decide (z < 0) && decide (z.toNatClampNeg ≤ 1000)) with
      | false => rw [hz] at h1; cases h1
      | true =>
        rw [hz] at h1
        cases h1
        simp only [Bool.and_eq_true, Bool.not_eq_true', decide_eq_false_iff_not, decide_eq_true_eq] at hz
        refine va_newa (atype := .long) (ty := .long) (a0 := (z.toNatClampNeg, .inr (.inl (fun _ => 0)))) hx hb (hts _ (xi_has_in hk)) rfl hK hP hD hS hA (fun _ => rfl) hz.1 rfl (by have := hz.2; show z.toNatClampNeg * componentBytes .long ≤ 536870912; have e4 : componentBytes .long = 8 := rfl; rw [e4]; omega) hcell hslot hd (fun q cA H1 hK1 hP1 hD1 hS1 => ?_)
        have hcA : cA = cs 1 := by
          have h8 : s.vm.findClass ("[" ++ (FieldType.long).toString) = some cA := (hK1.2 4 (cA, .long) rfl).2
          have h9 : s.vm.findClass ("[" ++ (FieldType.long).toString) = some (cs 1) := (hK.2 1 (cs 1, .long) rfl).2
          exact Option.some.inj (h8.symm.trans h9)
        subst hcA
        have := kk [q] H1 (hJ0.push hwh hAb (by
          show (Sum.inl (cs 1, (List.replicate z.toNatClampNeg (0 : Int64)).length, Sum.inr (Sum.inl (fun j => (List.replicate z.toNatClampNeg (0 : Int64)).getD j 0))) : va_E) = _
          rw [xi_repL, List.length_replicate]) hP1 hD1) hS1 (hlq [q])
        rw [List.map_cons, xi_em_apps (by rw [hlen]; exact (by rw [List.all_cons] at hws; exact (Bool.and_eq_true_iff.mp hws).2))] at this
        have e9 : xi_em (as ++ [q]) (.ref h.length) = .ref q := by show Value.ref _ = Value.ref _; rw [hgq]
        rw [e9] at this
        exact this
    · cases h1
  -- anewarray
  · rename_i k
    split at h1
    · rename_i z st1 x9
      cases hz : (!decide (z < 0) && decide (z.toNatClampNeg ≤ 1000)) with
      | false => rw [hz] at h1; cases h1
      | true =>
        rw [hz] at h1
        cases h1
        simp only [Bool.and_eq_true, Bool.not_eq_true', decide_eq_false_iff_not, decide_eq_true_eq] at hz
        obtain ⟨ha1, hk⟩ := hk
        subst ha1
        refine va_newq (C := "NoisyCodes$Way") hx hb hown (hts _ (xi_has_in hk)) hAO hK hP hD hS hA hz.1 rfl (by have := hz.2; omega) hcell hslot hd (fun q cA H1 hK1 hP1 hD1 hS1 => ?_)
        have hcA : cA = cs 2 := by
          obtain ⟨_, _, _, _, _, h8⟩ := (hK1.2 4 (cA, .object "NoisyCodes$Way") rfl).2
          obtain ⟨_, _, _, _, _, h9⟩ := (hK.2 2 (cs 2, .object "NoisyCodes$Way") rfl).2
          exact Option.some.inj (h8.symm.trans h9)
        subst hcA
        have := kk [q] H1 (hJ0.push hwh hAb (by
          show (Sum.inl (cs 2, (List.replicate z.toNatClampNeg (none : Option Nat)).length, Sum.inr (Sum.inr (Sum.inr (Sum.inr (fun j => ((List.replicate z.toNatClampNeg (none : Option Nat)).getD j none).map (fun w => (as ++ [q]).getD w 0)))))) : va_E) = _
          rw [xi_repR, List.length_replicate]) hP1 hD1) hS1 (hlq [q])
        rw [List.map_cons, xi_em_apps (by rw [hlen]; exact (by rw [List.all_cons] at hws; exact (Bool.and_eq_true_iff.mp hws).2))] at this
        have e9 : xi_em (as ++ [q]) (.ref h.length) = .ref q := by show Value.ref _ = Value.ref _; rw [hgq]
        rw [e9] at this
        exact this
    · cases h1
  · rename_i k j
    exact absurd rfl (hi k j)
  · cases h1
end XN
