/-! One step of the little machine is a step of the machine: reads and writes of the heap. Behind the tables (xi_cl, xi_ks, xi_gw, xi_nw). DRAFT until it has compiled once. -/
-- the words that keep
def xi_gw : List Cond := lw_tbl.filter goodWord
theorem xi_has_in {w : Cond} (h : w ∈ xi_gw) : w ∈ xi_gw := h
-- words looked up by their places in the table: the kernel compares them
def xi_lk (ps : List Nat) : List Cond := ps.map (fun i => lw_tbl.getD i (.initialized ""))
def xi_lkn (ps : List Nat) : List Cond := ps.map (fun i => xi_nw.getD i (.initialized ""))
theorem xi_lw_len : lw_tbl.length = xi_lwn := by decide +kernel
theorem xi_lk_in {ps : List Nat} {ws : List Cond} (h : xi_lk ps = ws) (hp : ps.all (fun i => decide (i < xi_lwn)) = true) (hg : (xi_lk ps).all goodWord = true) : ∀ w ∈ ws, w ∈ xi_gw := fun w hw => by
  rw [← h] at hw
  have hg := List.all_eq_true.mp hg w hw
  obtain ⟨i, hi, rfl⟩ := List.mem_map.mp hw
  have hl : i < lw_tbl.length := by rw [xi_lw_len]; exact of_decide_eq_true (List.all_eq_true.mp hp i hi)
  refine List.mem_filter.mpr ⟨?_, hg⟩
  rw [List.getD_eq_getElem?_getD, List.getElem?_eq_getElem hl]
  exact List.getElem_mem hl
theorem xi_lkn_in {ps : List Nat} {ws : List Cond} (h : xi_lkn ps = ws) (hp : ps.all (fun i => decide (i < xi_nw.length)) = true) : ∀ w ∈ ws, w ∈ xi_nw := fun w hw => by
  rw [← h] at hw
  obtain ⟨i, hi, rfl⟩ := List.mem_map.mp hw
  have hl := of_decide_eq_true (List.all_eq_true.mp hp i hi)
  rw [List.getD_eq_getElem?_getD, List.getElem?_eq_getElem hl]
  exact List.getElem_mem hl
-- the classes: field words, types, names apart
def xi_clB (ci : Nat) : Bool := match xi_cl[ci]? with
  | some q => (List.range q.2.2).all (fun k => match (xi_ks.getD ci [])[k]? with
      | some z => decide (parseFieldDescriptor (q.2.1 k).2.2.1 = some z.1) && decide (z.2 = defaultValue z.1)
      | none => false) && (xi_ks.getD ci []).length == q.2.2 && (List.range q.2.2).all (fun a => (List.range q.2.2).all (fun b => a == b || decide ((q.2.1 a).2.1 ≠ (q.2.1 b).2.1)))
  | none => true
theorem xi_clB_all : (List.range xi_cl.length).all xi_clB = true := by decide +kernel
theorem xi_clW : xi_lk xk_cp = xi_cl.flatMap (fun q => u_ws q.1 q.2.1 q.2.2 ++ [.instantiable q.1 q.2.2, .initialized q.1]) := by decide +kernel
theorem xi_clOk : ∀ (ci : Nat) (q : vw_C), xi_cl[ci]? = some q → (∀ w ∈ u_ws q.1 q.2.1 q.2.2, w ∈ xi_gw) ∧ (∀ k, k < q.2.2 → ∃ ty v, (xi_ks.getD ci [])[k]? = some (ty, v) ∧ parseFieldDescriptor (q.2.1 k).2.2.1 = some ty ∧ v = defaultValue ty) ∧ (xi_ks.getD ci []).length = q.2.2 ∧ (∀ a, a < q.2.2 → ∀ b, b < q.2.2 → a ≠ b → (q.2.1 a).2.1 ≠ (q.2.1 b).2.1) ∧ Cond.instantiable q.1 q.2.2 ∈ xi_gw ∧ Cond.initialized q.1 ∈ xi_gw := by
  intro ci q h
  have hw : ∀ w ∈ u_ws q.1 q.2.1 q.2.2 ++ [.instantiable q.1 q.2.2, .initialized q.1], w ∈ xi_gw := fun w hw => xi_lk_in xi_clW (by decide +kernel) (by decide +kernel) w (List.mem_flatMap.mpr ⟨q, List.mem_of_getElem? h, hw⟩)
  have hB := List.all_eq_true.mp xi_clB_all ci (List.mem_range.mpr (List.getElem?_eq_some_iff.mp h).1)
  unfold xi_clB at hB
  rw [h] at hB
  dsimp only at hB
  obtain ⟨hB, b3⟩ := Bool.and_eq_true_iff.mp hB
  obtain ⟨b1, b2⟩ := Bool.and_eq_true_iff.mp hB
  refine ⟨fun w h9 => hw w (List.mem_append_left _ h9), fun k hk => ?_, by simpa using b2, fun a ha b hb hab => ?_, hw _ (List.mem_append_right _ List.mem_cons_self), hw _ (List.mem_append_right _ (List.mem_cons_of_mem _ List.mem_cons_self))⟩
  · have b1 := List.all_eq_true.mp b1 k (List.mem_range.mpr hk)
    split at b1
    · rename_i z hz
      obtain ⟨c1, c2⟩ := Bool.and_eq_true_iff.mp b1
      exact ⟨z.1, z.2, hz, of_decide_eq_true c1, of_decide_eq_true c2⟩
    · cases b1
  · have b3 := List.all_eq_true.mp (List.all_eq_true.mp b3 a (List.mem_range.mpr ha)) b (List.mem_range.mpr hb)
    rcases Bool.or_eq_true_iff.mp b3 with c1 | c1
    · exact absurd (by simpa using c1) hab
    · exact of_decide_eq_true c1
def xi_ty (cs : Nat → ClassId) : List (ClassId × FieldType) := [(cs 0, .int), (cs 1, .long), (cs 2, .object "NoisyCodes$Way"), (cs 3, .array .int)]
theorem xi_in_ok {i : Int32} {n : Nat} (h : xi_in i n = true) : vp_in i n ∧ i.toNatClampNeg < n := by
  unfold xi_in at h
  simp only [Bool.and_eq_true, Bool.not_eq_true', decide_eq_false_iff_not, decide_eq_true_eq] at h
  exact ⟨fun q => q.elim h.1 (fun z => by omega), h.2⟩
theorem xi_fit_ok {ty : FieldType} {v : Value} (as : List Nat) (h : xi_fit ty v = true) : narrow ty (xi_em as v) = xi_em as v ∧ fits ty (xi_em as v) = true := by
  unfold xi_fit at h
  split at h
  · exact ⟨rfl, rfl⟩
  · rename_i x
    rcases Bool.or_eq_true_iff.mp h with q | q
    · have q := of_decide_eq_true q
      subst q
      exact ⟨rfl, rfl⟩
    · have q := of_decide_eq_true q
      subst q
      exact ⟨rfl, rfl⟩
  · exact ⟨rfl, rfl⟩
  · exact ⟨rfl, rfl⟩
  · cases h
-- the world at the addresses as
def xi_Wd (D : va_G) (cs : Nat → ClassId) (b base : Nat) (X : List Int32) (A : Nat → Prop) (as : List Nat) (h : List xi_C) (H : Heap) : Prop :=
  as.length = h.length ∧ as[0]? = some b ∧ h[0]? = some (.inl X) ∧ (∀ a ∈ as.drop 1, base ≤ a) ∧ va_P D xi_cl (xi_ws cs as h) H ∧ va_D A (xi_ws cs as h)
-- what doesn't change while a method runs
def xi_Cx (p : Program) (s : State) (m : MethodId) (args : Array Value) (c : Code) (cc : ByteArray) (own : String) (D : va_G) (cs : Nat → ClassId) (b : Nat) (X : List Int32) (A : Nat → Prop) : Prop :=
  p.tables.exec = Jvm.exec ∧ c.code = cc ∧ s.vm.findClass own = some m.cls ∧ (∀ w ∈ xi_gw, w.before args s = true) ∧ (∀ w ∈ xi_nw, va_Nw w s) ∧ va_K D xi_cl (xi_ty cs) s ∧ va_X b X.length (fun j => X.getD j 0) s s.heap ∧ b < s.heap.size ∧ ¬ A b ∧ ∀ q, s.heap.size ≤ q → A q
def xi_okf (own : String) (k ci b : Nat) : Prop := ∃ q, xi_cl[ci]? = some q ∧ b < q.2.2 ∧ (Cond.fieldLink own k (q.2.1 b).1 (q.2.1 b).2.1 (q.2.1 b).2.2.1 ∈ xi_gw ∨ Cond.fieldLinkNest own k (q.2.1 b).1 (q.2.1 b).2.1 (q.2.1 b).2.2.1 "NoisyCodes" ∈ xi_nw)
def xi_okp (own nm : String) (k ci b : Nat) : Prop := ∃ q, xi_cl[ci]? = some q ∧ b < q.2.2 ∧ Cond.fieldLink own k (q.2.1 b).1 (q.2.1 b).2.1 (q.2.1 b).2.2.1 ∈ xi_gw ∧ ((q.2.1 b).2.2.2 = false ∨ ((q.2.1 b).1 = own ∧ nm = "<init>"))
section XH
variable {p : Program} {l : Launch} {e : Env} {R : Room} {s : State} {m : MethodId} {args : Array Value} {below : List Frame} {meth : Method} {c : Code} {H : Heap} {locs : List Loc} {cells slots : Nat} {Q : State → Prop}
variable {cc : ByteArray} {pc : Nat} {ls : Array Slot} {as : List Nat} {nL : Nat} {own : String} {D : va_G} {cs : Nat → ClassId} {b base : Nat} {X : List Int32} {A : Nat → Prop} {h : List xi_C}
set_option maxHeartbeats 4000000 in
theorem xi_rd_ok (C0 : xi_Cx p s m args c cc own D cs b X A) (hJ : xi_Wd D cs b base X A as h H) (hS : va_S A s.heap H locs) {i : Instr} {a1 b1 : Nat} {st st' : List Value} (hd : decode cc pc = .ok (i, xi_len i))
    (hk : ∀ k, i = .getfield k → xi_okf own k a1 b1) (h1 : xi_rd i a1 b1 st h = some st')
    (kk : W p l e R s m args below meth c H locs cells slots Q (F0 m (pc + xi_len i) ls (st'.map (xi_em as)))) : W p l e R s m args below meth c H locs cells slots Q (F0 m pc ls (st.map (xi_em as))) := by
  obtain ⟨hx, hb, hown, hts, hnw, hK, hX, hbl, hbA, hA⟩ := C0
  obtain ⟨hlen, ha0, hh0, hbase, hP, hD⟩ := hJ
  unfold xi_rd at h1
  split at h1
  -- iaload
  · split at h1
    · rename_i j q st1
      split at h1
      · rename_i lx hq
        cases hin : xi_in j lx.length with
        | false => rw [hin] at h1; cases h1
        | true =>
          rw [hin] at h1
          cases h1
          obtain ⟨hin1, hin2⟩ := xi_in_ok hin
          cases q with
          | zero =>
            cases hh0.symm.trans hq
            have e0 : as.getD 0 0 = b := xi_getD ha0
            show W p l e R s m args below meth c H locs cells slots Q (F0 m pc ls (.int j :: .ref (as.getD 0 0) :: st1.map (xi_em as)))
            rw [e0]
            exact va_sld hx hb hX hbl hbA hS hin1 hd kk
          | succ q =>
            obtain ⟨ad, had⟩ := xi_addr hlen hq
            show W p l e R s m args below meth c H locs cells slots Q (F0 m pc ls (.int j :: .ref (as.getD (q + 1) 0) :: st1.map (xi_em as)))
            rw [xi_getD had]
            exact va_iald hx hb hK hP q 0 (xi_ws_at had hq) rfl hin1 hd kk
      · cases h1
    · cases h1
  -- laload
  · split at h1
    · rename_i j q st1
      split at h1
      · rename_i lx hq
        cases hin : xi_in j lx.length with
        | false => rw [hin] at h1; cases h1
        | true =>
          rw [hin] at h1
          cases h1
          obtain ⟨hin1, hin2⟩ := xi_in_ok hin
          obtain ⟨ad, had⟩ := xi_addr hlen hq
          show W p l e R s m args below meth c H locs cells slots Q (F0 m pc ls (.int j :: .ref (as.getD (q + 1) 0) :: st1.map (xi_em as)))
          rw [xi_getD had]
          exact va_lald hx hb hK hP q 1 (xi_ws_at had hq) rfl hin1 hd kk
      · cases h1
    · cases h1
  -- aaload
  · split at h1
    · rename_i j q st1
      split at h1
      · rename_i kd lx hq
        cases hin : (decide (kd < 2) && xi_in j lx.length) with
        | false => rw [hin] at h1; cases h1
        | true =>
          rw [hin] at h1
          simp only [cond_true] at h1
          obtain ⟨hk2, hin⟩ := Bool.and_eq_true_iff.mp hin
          have hk2 := of_decide_eq_true hk2
          obtain ⟨hin1, hin2⟩ := xi_in_ok hin
          split at h1
          · rename_i y hy
            cases h1
            obtain ⟨ad, had⟩ := xi_addr hlen hq
            show W p l e R s m args below meth c H locs cells slots Q (F0 m pc ls (.int j :: .ref (as.getD (q + 1) 0) :: st1.map (xi_em as)))
            rw [xi_getD had]
            have hw := xi_ws_at (cs := cs) had hq
            have hcell := hP q _ hw
            have hty : ∃ ty, (xi_ty cs)[kd + 2]? = some (cs (kd + 2), ty) ∧ ty.isReference = true := by
              rcases (show kd = 0 ∨ kd = 1 by omega) with rfl | rfl
              · exact ⟨_, rfl, rfl⟩
              · exact ⟨_, rfl, rfl⟩
            obtain ⟨ty, ht1, ht2⟩ := hty
            have harr := (hK.2 (kd + 2) _ ht1).1
            exact W.aald hx hb (ty := ty) (cell := arrV (cs (kd + 2)) lx.length (fun j => va_rf ((lx.getD j none).map (fun i => as.getD i 0)))) hcell (harr _ _) ht2 (fun q9 => by cases q9)
              (by rw [show (arrV (cs (kd + 2)) lx.length (fun j => va_rf ((lx.getD j none).map (fun i => as.getD i 0)))).slots.size = lx.length by simp [arrV]]; exact hin1)
              (v := .ref (as.getD y 0)) (by
                rw [arrV_read _ _ hin2]
                show some (va_rf ((lx.getD j.toNatClampNeg none).map (fun i => as.getD i 0))) = _
                rw [hy]
                rfl) rfl rfl hd kk
          · cases h1
      · cases h1
    · cases h1
  -- arraylength
  · split at h1
    · rename_i q st1
      split at h1
      · rename_i lx hq
        cases h1
        cases q with
        | zero =>
          cases hh0.symm.trans hq
          have e0 : as.getD 0 0 = b := xi_getD ha0
          show W p l e R s m args below meth c H locs cells slots Q (F0 m pc ls (.ref (as.getD 0 0) :: st1.map (xi_em as)))
          rw [e0]
          exact va_slen hx hb hX hbl hbA hS hd kk
        | succ q =>
          obtain ⟨ad, had⟩ := xi_addr hlen hq
          show W p l e R s m args below meth c H locs cells slots Q (F0 m pc ls (.ref (as.getD (q + 1) 0) :: st1.map (xi_em as)))
          rw [xi_getD had]
          exact va_alen hx hb hK hP q 0 (xi_ws_at had hq) (ty := .int) rfl rfl hd kk
      · cases h1
    · cases h1
  -- getfield
  · rename_i k
    split at h1
    · rename_i q st1
      split at h1
      · rename_i ci fs hq
        cases hci : (ci == a1) with
        | false => rw [hci] at h1; cases h1
        | true =>
          rw [hci] at h1
          simp only [cond_true] at h1
          have hci : ci = a1 := by simpa using hci
          subst hci
          split at h1
          · rename_i v hv
            cases h1
            obtain ⟨ad, had⟩ := xi_addr hlen hq
            have hw := xi_ws_at (cs := cs) had hq
            have hvv : (fs.map (xi_em as))[b1]? = some (xi_em as v) := by rw [List.getElem?_map, hv]; rfl
            show W p l e R s m args below meth c H locs cells slots Q (F0 m pc ls (.ref (as.getD (q + 1) 0) :: st1.map (xi_em as)))
            rw [xi_getD had]
            obtain ⟨r, hr, hbn, hlk⟩ := hk k rfl
            have hin := (xi_clOk ci r hr).1
            rcases hlk with z | z
            · exact va_get hx hb hts hin hown hK hP q hw hr b1 hbn (hts _ z) (fun _ h9 => h9) hvv hd kk
            · exact va_getN hx hb hts hin hown hK hP q hw hr b1 hbn (va_Nw.use rfl (hnw _ z)) (fun _ h9 => h9) hvv hd kk
          · cases h1
      · cases h1
    · cases h1
  · cases h1

theorem xi_Wd.set (hJ : xi_Wd D cs b base X A as h H) {q ad : Nat} {c0 c1 : xi_C} {ev : va_E} {H1 : Heap} (had : as[q + 1]? = some ad) (hq : h[q + 1]? = some c0) (he : xi_ea cs as c1 = ev)
    (hP1 : va_P D xi_cl ((xi_ws cs as h).set q (ad, ev)) H1) (hD1 : va_D A ((xi_ws cs as h).set q (ad, ev))) : xi_Wd D cs b base X A as (h.set (q + 1) c1) H1 := by
  obtain ⟨hlen, ha0, hh0, hbase, hP, hD⟩ := hJ
  subst he
  exact ⟨by rw [List.length_set]; exact hlen, ha0, by rw [List.getElem?_set_ne (by omega)]; exact hh0, hbase, by rw [xi_ws_set had hq]; exact hP1, by rw [xi_ws_set had hq]; exact hD1⟩
theorem xi_cpy_len (l g : List Int32) (sp dp n : Nat) : (xi_cpy l g sp dp n).length = g.length := by simp [xi_cpy]
theorem xi_cpy_fun (l g : List Int32) (sp dp n : Nat) (h : dp + n ≤ g.length) : (fun j => (xi_cpy l g sp dp n).getD j 0) = va_cpy (fun j => l.getD j 0) (fun j => g.getD j 0) sp dp n := by
  funext j
  unfold va_cpy
  by_cases hj : j < g.length
  · rw [List.getD_eq_getElem?_getD, xi_cpy, List.getElem?_map, List.getElem?_range hj]
    by_cases h9 : dp ≤ j ∧ j < dp + n
    · rw [if_pos h9]
      simp [h9.1, h9.2]
    · rw [if_neg h9]
      have h8 : (decide (dp ≤ j) && decide (j < dp + n)) = false := by
        rw [Bool.and_eq_false_iff]
        by_cases h7 : dp ≤ j
        · exact Or.inr (decide_eq_false (fun z => h9 ⟨h7, z⟩))
        · exact Or.inl (decide_eq_false h7)
      simp [h8]
  · have h1 : (xi_cpy l g sp dp n)[j]? = none := List.getElem?_eq_none (by rw [xi_cpy_len]; omega)
    have h2 : g[j]? = none := List.getElem?_eq_none (by omega)
    rw [List.getD_eq_getElem?_getD, h1, if_neg (by omega)]
    show (0 : Int32) = g.getD j 0
    rw [List.getD_eq_getElem?_getD, h2]
    rfl
theorem xi_upR (as : List Nat) (l : List (Option Nat)) (j : Nat) (y : Nat) (hj : j < l.length) : (fun i => ((l.set j (some y)).getD i none).map (fun q => as.getD q 0)) = va_up (fun i => (l.getD i none).map (fun q => as.getD q 0)) j (some (as.getD y 0)) := by
  funext i
  unfold va_up
  by_cases h : i = j
  · subst h
    rw [if_pos rfl, List.getD_eq_getElem?_getD, List.getElem?_set_self hj]
    rfl
  · rw [if_neg h]
    show ((l.set j (some y)).getD i none).map (fun q => as.getD q 0) = (l.getD i none).map (fun q => as.getD q 0)
    rw [List.getD_eq_getElem?_getD, List.getD_eq_getElem?_getD, List.getElem?_set_ne (Ne.symm h)]
-- the words of Object.<init> and arraycopy
def xi_okw (own : String) (i : Instr) (a : Nat) : Prop := match i with
  | .invokespecial k => a = 1000 → (Cond.methodLink own k objectInit ∈ xi_gw ∧ Cond.instanceMethod objectInit ∈ xi_gw ∧ Cond.code objectInit ⟨#[0xb1]⟩ 1 none ∈ xi_gw)
  | .invokestatic k => a = 1001 → (Cond.methodLink own k arraycopyName ∈ xi_gw ∧ Cond.native arraycopyName ∈ xi_gw ∧ Cond.static arraycopyName ∈ xi_gw ∧ Cond.initialized "java/lang/System" ∈ xi_gw)
  | _ => True
-- room for them
def xi_okR (i : Instr) (a : Nat) (R : Room) : Prop := match i with
  | .invokespecial _ => a = 1000 → 1 ≤ R.frames ∧ 20 ≤ R.locals
  | .invokestatic _ => a = 1001 → 1 ≤ R.frames ∧ 8 + (nativeFrameWords "java/lang/System" "arraycopy" 5 + 11) ≤ R.locals
  | _ => True
set_option maxHeartbeats 4000000 in
theorem xi_wr_ok (C0 : xi_Cx p s m args c cc own D cs b X A) (hJ : xi_Wd D cs b base X A as h H) (hS : va_S A s.heap H locs) {nm : String} (hnm : meth.name = nm) (hls : ls.size = c.maxLocals) {i : Instr} {a1 b1 : Nat} {st st' : List Value} {h' : List xi_C} (hd : decode cc pc = .ok (i, xi_len i))
    (hk : ∀ k, i = .putfield k → xi_okp own nm k a1 b1) (hw : xi_okw own i a1) (hR : xi_okR i a1 R) (h1 : xi_wr xi_ks i a1 b1 st h = some (st', h'))
    (kk : ∀ (H1 : Heap) (locs1 : List Loc), xi_Wd D cs b base X A as h' H1 → va_S A s.heap H1 locs1 → W p l e R s m args below meth c H1 locs1 cells slots Q (F0 m (pc + xi_len i) ls (st'.map (xi_em as)))) : W p l e R s m args below meth c H locs cells slots Q (F0 m pc ls (st.map (xi_em as))) := by
  have hJ0 := hJ
  obtain ⟨hx, hb, hown, hts, hnw, hK, hX, hbl, hbA, hA⟩ := C0
  obtain ⟨hlen, ha0, hh0, hbase, hP, hD⟩ := hJ
  unfold xi_wr at h1
  split at h1
  -- iastore
  · split at h1
    · rename_i x j q st1
      split at h1
      · rename_i lx hq
        cases hin : xi_in j lx.length with
        | false => rw [hin] at h1; cases h1
        | true =>
          rw [hin] at h1
          cases h1
          obtain ⟨hin1, hin2⟩ := xi_in_ok hin
          obtain ⟨ad, had⟩ := xi_addr hlen hq
          show W p l e R s m args below meth c H locs cells slots Q (F0 m pc ls (.int x :: .int j :: .ref (as.getD (q + 1) 0) :: st'.map (xi_em as)))
          rw [xi_getD had]
          exact va_iast hx hb hK hP hD hS q 0 (xi_ws_at had hq) rfl hin1 hd (fun H1 locs1 hP1 hD1 hS1 => kk H1 locs1 (hJ0.set had hq (by
            show (Sum.inl (cs 0, (lx.set j.toNatClampNeg x).length, Sum.inl (fun i => (lx.set j.toNatClampNeg x).getD i 0)) : va_E) = _
            rw [xi_upd lx _ x hin2, List.length_set]) hP1 hD1) hS1)
      · cases h1
    · cases h1
  -- lastore
  · split at h1
    · rename_i x j q st1
      split at h1
      · rename_i lx hq
        cases hin : xi_in j lx.length with
        | false => rw [hin] at h1; cases h1
        | true =>
          rw [hin] at h1
          cases h1
          obtain ⟨hin1, hin2⟩ := xi_in_ok hin
          obtain ⟨ad, had⟩ := xi_addr hlen hq
          show W p l e R s m args below meth c H locs cells slots Q (F0 m pc ls (.long x :: .int j :: .ref (as.getD (q + 1) 0) :: st'.map (xi_em as)))
          rw [xi_getD had]
          exact va_last hx hb hK hP hD hS q 1 (xi_ws_at had hq) rfl hin1 hd (fun H1 locs1 hP1 hD1 hS1 => kk H1 locs1 (hJ0.set had hq (by
            show (Sum.inl (cs 1, (lx.set j.toNatClampNeg x).length, Sum.inr (Sum.inl (fun i => (lx.set j.toNatClampNeg x).getD i 0))) : va_E) = _
            rw [xi_updL lx _ x hin2, List.length_set]) hP1 hD1) hS1)
      · cases h1
    · cases h1
  -- aastore
  · split at h1
    · rename_i v j q st1
      split at h1
      · rename_i kd lx ci fs hq hv
        cases hin : (xi_in j lx.length && xi_asg kd ci) with
        | false => rw [hin] at h1; cases h1
        | true =>
          rw [hin] at h1
          cases h1
          obtain ⟨hin, has⟩ := Bool.and_eq_true_iff.mp hin
          obtain ⟨hin1, hin2⟩ := xi_in_ok hin
          obtain ⟨hkd, hci⟩ := Bool.and_eq_true_iff.mp has
          have hkd : kd = 0 := by simpa using hkd
          subst hkd
          obtain ⟨ad, had⟩ := xi_addr hlen hq
          obtain ⟨av, hav⟩ := xi_addr hlen hv
          show W p l e R s m args below meth c H locs cells slots Q (F0 m pc ls (.ref (as.getD (v + 1) 0) :: .int j :: .ref (as.getD (q + 1) 0) :: st'.map (xi_em as)))
          rw [xi_getD had, xi_getD hav]
          obtain ⟨r, hr, hca⟩ : ∃ r : vw_C, xi_cl[ci]? = some r ∧ va_Nw (.castable r.1 "NoisyCodes$Way") s := by
            rcases (show ci = 4 ∨ ci = 5 ∨ ci = 6 by simpa [or_assoc] using hci) with rfl | rfl | rfl
            · exact ⟨_, rfl, hnw _ (by decide +kernel)⟩
            · exact ⟨_, rfl, hnw _ (by decide +kernel)⟩
            · exact ⟨_, rfl, hnw _ (by decide +kernel)⟩
          exact va_astqO hx hb hK hP hD hS q 2 v ci (xi_ws_at had hq) rfl hca (xi_ws_at hav hv) hr hin1 hd (fun H1 locs1 hP1 hD1 hS1 => kk H1 locs1 (hJ0.set had hq (by
            show (Sum.inl (cs 2, (lx.set j.toNatClampNeg (some (v + 1))).length, Sum.inr (Sum.inr (Sum.inr (Sum.inr (fun i => ((lx.set j.toNatClampNeg (some (v + 1))).getD i none).map (fun q => as.getD q 0)))))) : va_E) = _
            rw [xi_upR as lx _ (v + 1) hin2, List.length_set, xi_getD hav]) hP1 hD1) hS1)
      · cases h1
    · cases h1
  -- putfield
  · rename_i k
    split at h1
    · rename_i v q st1
      split at h1
      · rename_i ci fs ty dv hq hty
        cases hin : (ci == a1 && decide (b1 < fs.length) && xi_fit ty v) with
        | false => rw [hin] at h1; cases h1
        | true =>
          rw [hin] at h1
          cases h1
          obtain ⟨hin, hfit⟩ := Bool.and_eq_true_iff.mp hin
          obtain ⟨hci, hbl1⟩ := Bool.and_eq_true_iff.mp hin
          have hci : ci = a1 := by simpa using hci
          subst hci
          have hbl1 := of_decide_eq_true hbl1
          obtain ⟨hf1, hf2⟩ := xi_fit_ok as hfit
          obtain ⟨ad, had⟩ := xi_addr hlen hq
          show W p l e R s m args below meth c H locs cells slots Q (F0 m pc ls (xi_em as v :: .ref (as.getD (q + 1) 0) :: st'.map (xi_em as)))
          rw [xi_getD had]
          obtain ⟨r, hr, hbn, hlk, hfin⟩ := hk k rfl
          · have hlk := hts _ hlk
            obtain ⟨hin, hty0, -, hnms, -, -⟩ := xi_clOk ci r hr
            obtain ⟨ty', dv', ht1, ht2, -⟩ := hty0 b1 hbn
            cases hty.symm.trans ht1
            have hall : ∀ k, k < r.2.2 → parseFieldDescriptor (r.2.1 k).2.2.1 = some ((((xi_ks.getD ci [])[k]?).map (fun q => q.1)).getD .int) := fun k hk9 => by
              obtain ⟨ty9, dv9, h8, h9, -⟩ := hty0 k hk9
              rw [h8]
              exact h9
            have hlf : b1 < (fs.map (xi_em as)).length := by rw [List.length_map]; exact hbl1
            have hset : xi_ea cs as (.inr (.inr (.inr (ci, fs.set b1 v)))) = .inr (ci, (fs.map (xi_em as)).set b1 (xi_em as v)) := by
              show (Sum.inr (ci, (fs.set b1 v).map (xi_em as)) : va_E) = _
              rw [List.map_set]
            rcases hfin with z | z
            · exact va_put hx hb hts hin _ hall hnms hown hK hP hD hS q (xi_ws_at had hq) hr b1 hbn hlk (fun _ h9 => h9) z ht2 hf1 hf2 hlf hd (fun H1 locs1 hP1 hD1 hS1 => kk H1 locs1 (hJ0.set had hq hset hP1 hD1) hS1)
            · obtain ⟨z1, z2⟩ := z
              cases hff : (r.2.1 b1).2.2.2 with
              | false => exact va_put hx hb hts hin _ hall hnms hown hK hP hD hS q (xi_ws_at had hq) hr b1 hbn hlk (fun _ h9 => h9) hff ht2 hf1 hf2 hlf hd (fun H1 locs1 hP1 hD1 hS1 => kk H1 locs1 (hJ0.set had hq hset hP1 hD1) hS1)
              | true => exact va_putF hx hb hts hin _ hall hnms hown hK hP hD hS q (xi_ws_at had hq) hr b1 hbn hlk (fun _ h9 => h9) hff (hnm.trans z2) z1 ht2 hf1 hf2 hlf hd (fun H1 locs1 hP1 hD1 hS1 => kk H1 locs1 (hJ0.set had hq hset hP1 hD1) hS1)
      · cases h1
    · cases h1
  -- Object.<init>
  · rename_i k
    cases ha : (a1 == 1000) with
    | false => rw [ha] at h1; cases h1
    | true =>
      rw [ha] at h1
      simp only [cond_true] at h1
      split at h1
      · rename_i q st1
        cases hsum : decide ((st1.map fun v => v.category).sum ≤ 8) with
        | false => rw [hsum] at h1; cases h1
        | true =>
          rw [hsum] at h1
          cases h1
          have hsum := of_decide_eq_true hsum
          have hw := hw (by simpa using ha)
          have hR1 := hR (by simpa using ha)
          exact W.objInit hx hb hown (hts _ hw.1) (hts _ hw.2.1) (hts _ hw.2.2) rfl hls rfl hd hR1.1 (by
            have e9 : ((F0 m pc ls ((Value.ref q :: st').map (xi_em as))).monitorRoom) = 0 := rfl
            rw [e9, xi_em_sum]
            omega) (kk H locs hJ0 hS)
      · cases h1
  -- arraycopy
  · rename_i k
    cases ha : (a1 == 1001) with
    | false => rw [ha] at h1; cases h1
    | true =>
      rw [ha] at h1
      simp only [cond_true] at h1
      split at h1
      · rename_i n dp q sp o st1
        split at h1
        · rename_i lx gx hq0 hq1
          cases hin : (!decide (n < 0) && !decide (dp < 0) && !decide (sp < 0) && decide (sp.toNatClampNeg + n.toNatClampNeg ≤ lx.length) && decide (dp.toNatClampNeg + n.toNatClampNeg ≤ gx.length) && decide ((st1.map fun v => v.category).sum ≤ 8)) with
          | false => rw [hin] at h1; cases h1
          | true =>
            rw [hin] at h1
            cases h1
            simp only [Bool.and_eq_true, Bool.not_eq_true', decide_eq_false_iff_not, decide_eq_true_eq] at hin
            obtain ⟨⟨⟨⟨⟨g1, g2⟩, g3⟩, g4⟩, g5⟩, g6⟩ := hin
            have hw := hw (by simpa using ha)
            have hR1 := hR (by simpa using ha)
            obtain ⟨ad, had⟩ := xi_addr hlen hq1
            obtain ⟨ao, hao⟩ := xi_addr hlen hq0
            show W p l e R s m args below meth c H locs cells slots Q (F0 m pc ls (.int n :: .int dp :: .ref (as.getD (q + 1) 0) :: .int sp :: .ref (as.getD (o + 1) 0) :: st'.map (xi_em as)))
            rw [xi_getD had, xi_getD hao]
            exact va_copyi hx hb hls.symm hown (hts _ hw.1) (hts _ hw.2.1) (hts _ hw.2.2.1) (hts _ hw.2.2.2) hK hP hD hS o q 0 0 (xi_ws_at hao hq0) (xi_ws_at had hq1) rfl rfl rfl g3 g2 g1 g4 g5 (fun _ _ => rfl) hR1.1 (by rw [xi_em_sum]; omega) hd
              (fun H1 locs1 hP1 hD1 hS1 => kk H1 locs1 (hJ0.set had hq1 (by
                show (Sum.inl (cs 0, (xi_cpy lx gx _ _ _).length, Sum.inl (fun i => (xi_cpy lx gx _ _ _).getD i 0)) : va_E) = _
                rw [xi_cpy_fun lx gx _ _ _ g5, xi_cpy_len]) hP1 hD1) hS1)
        · cases h1
      · cases h1
  · cases h1
end XH
