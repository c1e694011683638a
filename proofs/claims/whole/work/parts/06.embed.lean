/-! The little machine's places as addresses. DRAFT until it has compiled once. -/
def xi_em (as : List Nat) (v : Value) : Value := match v with
  | .ref i => .ref (as.getD i 0)
  | v => v
theorem xi_em_cat (as : List Nat) (v : Value) : (xi_em as v).category = v.category := by cases v <;> rfl
theorem xi_em_sum (as : List Nat) (st : List Value) : ((st.map (xi_em as)).map fun v => v.category).sum = (st.map fun v => v.category).sum := by
  rw [List.map_map]
  exact congrArg List.sum (List.map_congr_left (fun v _ => xi_em_cat as v))
def xi_el (as : List Nat) (lv : xi_L) : List (Nat × Value) := lv.map (fun q => (q.1, xi_em as q.2))
theorem xi_look_mem : ∀ {lv : xi_L} {i : Nat} {v : Value}, xi_look lv i = some v → (i, v) ∈ lv := by
  intro lv
  induction lv with
  | nil => intro i v h; cases h
  | cons q l ih =>
    intro i v h
    unfold xi_look at h
    cases hq : (q.1 == i) with
    | true =>
      rw [hq] at h
      have h1 : some q.2 = some v := h
      cases h1
      have h2 : q.1 = i := by simpa using hq
      subst h2
      exact List.mem_cons_self
    | false =>
      rw [hq] at h
      exact List.mem_cons_of_mem _ (ih h)
theorem xi_el_at {ls : Array Slot} {nL i : Nat} {as : List Nat} {lv : xi_L} {v : Value} (h : lv_has ls nL (xi_el as lv)) (hk : xi_look lv i = some v) : ls[i]? = some (.val (xi_em as v)) :=
  h.2.2 (i, xi_em as v) (List.mem_map.mpr ⟨(i, v), xi_look_mem hk, rfl⟩)
theorem xi_el_filter (as : List Nat) (lv : xi_L) (i : Nat) : xi_el as (lv.filter (xi_keep i)) = (xi_el as lv).filter (fun q => !(q.1 == i) && !(q.1 + 1 == i && q.2.category == 2)) := by
  unfold xi_el
  rw [List.filter_map]
  congr 1
  apply List.filter_congr
  intro q _
  simp [xi_keep, xi_em_cat]
theorem xi_el_sto (as : List Nat) (lv : xi_L) (i : Nat) (v : Value) : (i, xi_em as v) :: (xi_el as lv).filter (fun q => !(q.1 == i) && !(q.1 + 1 == i && q.2.category == 2)) = xi_el as (xi_sto lv i v) := by
  rw [← xi_el_filter]
  rfl
-- cells; cs: the class ids of int[], long[], Way[], int[][]
def xi_ea (cs : Nat → ClassId) (as : List Nat) (c : xi_C) : va_E := match c with
  | .inl l => .inl (cs 0, l.length, .inl (fun j => l.getD j 0))
  | .inr (.inl l) => .inl (cs 1, l.length, .inr (.inl (fun j => l.getD j 0)))
  | .inr (.inr (.inl (k, l))) => .inl (cs (k + 2), l.length, .inr (.inr (.inr (.inr (fun j => (l.getD j none).map (fun i => as.getD i 0))))))
  | .inr (.inr (.inr (ci, fs))) => .inr (ci, fs.map (xi_em as))
def xi_ws (cs : Nat → ClassId) (as : List Nat) (h : List xi_C) : va_W := ((as.zip h).drop 1).map (fun q => (q.1, xi_ea cs as q.2))
theorem xi_ws_get {cs : Nat → ClassId} {as : List Nat} {h : List xi_C} (q : Nat) : (xi_ws cs as h)[q]? = match as[q + 1]?, h[q + 1]? with
    | some a, some c => some (a, xi_ea cs as c)
    | _, _ => none := by
  unfold xi_ws
  rw [List.getElem?_map, List.getElem?_drop, Nat.add_comm 1 q]
  show Option.map _ (List.zipWith Prod.mk as h)[q + 1]? = _
  rw [List.getElem?_zipWith]
  cases as[q + 1]? <;> cases h[q + 1]? <;> rfl
theorem xi_ws_at {cs : Nat → ClassId} {as : List Nat} {h : List xi_C} {q a : Nat} {c : xi_C} (ha : as[q + 1]? = some a) (hc : h[q + 1]? = some c) : (xi_ws cs as h)[q]? = some (a, xi_ea cs as c) := by
  rw [xi_ws_get, ha, hc]
theorem xi_getD {as : List Nat} {i a : Nat} (h : as[i]? = some a) : as.getD i 0 = a := by
  rw [List.getD_eq_getElem?_getD, h]; rfl
-- a place that the heap has, the addresses have
theorem xi_addr {as : List Nat} {h : List xi_C} (hl : as.length = h.length) {q : Nat} {c : xi_C} (hc : h[q]? = some c) : ∃ a, as[q]? = some a := by
  have h1 := (List.getElem?_eq_some_iff.mp hc).1
  exact ⟨_, List.getElem?_eq_getElem (by omega)⟩
theorem xi_ws_set {cs : Nat → ClassId} {as : List Nat} {h : List xi_C} {q a : Nat} {c0 c : xi_C} (ha : as[q + 1]? = some a) (hc : h[q + 1]? = some c0) : xi_ws cs as (h.set (q + 1) c) = (xi_ws cs as h).set q (a, xi_ea cs as c) := by
  have hq := (List.getElem?_eq_some_iff.mp hc).1
  have hw : q < (xi_ws cs as h).length := (List.getElem?_eq_some_iff.mp (xi_ws_at (cs := cs) ha hc)).1
  apply List.ext_getElem?
  intro j
  rw [xi_ws_get]
  by_cases hj : j = q
  · subst hj
    rw [List.getElem?_set_self hq, ha, List.getElem?_set_self hw]
  · rw [List.getElem?_set_ne (by omega), List.getElem?_set_ne (by omega), xi_ws_get]
-- arrays written
theorem xi_upd (l : List Int32) (j : Nat) (x : Int32) (hj : j < l.length) : (fun i => (l.set j x).getD i 0) = upd (fun i => l.getD i 0) j x := by
  funext i
  unfold upd
  by_cases h : i = j
  · subst h
    rw [if_pos rfl, List.getD_eq_getElem?_getD, List.getElem?_set_self hj]
    rfl
  · rw [if_neg h]
    show (l.set j x).getD i 0 = l.getD i 0
    rw [List.getD_eq_getElem?_getD, List.getD_eq_getElem?_getD, List.getElem?_set_ne (Ne.symm h)]
theorem xi_updL (l : List Int64) (j : Nat) (x : Int64) (hj : j < l.length) : (fun i => (l.set j x).getD i 0) = vp_updL (fun i => l.getD i 0) j x := by
  funext i
  unfold vp_updL
  by_cases h : i = j
  · subst h
    rw [if_pos rfl, List.getD_eq_getElem?_getD, List.getElem?_set_self hj]
    rfl
  · rw [if_neg h]
    show (l.set j x).getD i 0 = l.getD i 0
    rw [List.getD_eq_getElem?_getD, List.getD_eq_getElem?_getD, List.getElem?_set_ne (Ne.symm h)]
-- the addresses grow: nothing that is well formed changes
theorem xi_em_app {as z : List Nat} {v : Value} (h : xi_wfv as.length v = true) : xi_em (as ++ z) v = xi_em as v := by
  cases v with
  | ref i =>
    have hi : i < as.length := by simpa [xi_wfv] using h
    show Value.ref ((as ++ z).getD i 0) = Value.ref (as.getD i 0)
    rw [List.getD_eq_getElem?_getD, List.getD_eq_getElem?_getD, List.getElem?_append_left hi]
  | _ => rfl
theorem xi_em_apps {as z : List Nat} {st : List Value} (h : st.all (xi_wfv as.length) = true) : st.map (xi_em (as ++ z)) = st.map (xi_em as) :=
  List.map_congr_left (fun v hv => xi_em_app (List.all_eq_true.mp h v hv))
theorem xi_el_app {as z : List Nat} {lv : xi_L} (h : lv.all (fun q => xi_wfv as.length q.2) = true) : xi_el (as ++ z) lv = xi_el as lv := by
  unfold xi_el
  apply List.map_congr_left
  intro q hq
  rw [xi_em_app (List.all_eq_true.mp h q hq)]
theorem xi_ea_app {cs : Nat → ClassId} {as z : List Nat} {c : xi_C} (h : xi_wfc as.length c = true) : xi_ea cs (as ++ z) c = xi_ea cs as c := by
  rcases c with l | l | ⟨k, l⟩ | ⟨ci, fs⟩
  · rfl
  · rfl
  · show (Sum.inl _ : va_E) = Sum.inl _
    have hf : (fun j => (l.getD j none).map (fun i => (as ++ z).getD i 0)) = (fun j => (l.getD j none).map (fun i => as.getD i 0)) := by
      funext j
      cases hj : l.getD j none with
      | none => rfl
      | some i =>
        have hm : some i ∈ l := by
          rw [List.getD_eq_getElem?_getD] at hj
          cases h9 : l[j]? with
          | none => rw [h9] at hj; cases hj
          | some w =>
            rw [h9] at hj
            have : w = some i := hj
            subst this
            exact List.mem_of_getElem? h9
        have hi : i < as.length := by simpa using List.all_eq_true.mp h (some i) hm
        show some ((as ++ z).getD i 0) = some (as.getD i 0)
        rw [List.getD_eq_getElem?_getD, List.getD_eq_getElem?_getD, List.getElem?_append_left hi]
    rw [hf]
  · show (Sum.inr (ci, fs.map (xi_em (as ++ z))) : va_E) = Sum.inr (ci, fs.map (xi_em as))
    rw [xi_em_apps h]
theorem xi_ws_push {cs : Nat → ClassId} {as z : List Nat} {h y : List xi_C} (hl : as.length = h.length) (h0 : 0 < h.length) (hw : h.all (xi_wfc h.length) = true) : xi_ws cs (as ++ z) (h ++ y) = xi_ws cs as h ++ (z.zip y).map (fun q => (q.1, xi_ea cs (as ++ z) q.2)) := by
  unfold xi_ws
  rw [List.zip_append hl, List.drop_append_of_le_length (by rw [List.length_zip, hl]; omega), List.map_append]
  congr 1
  apply List.map_congr_left
  intro q hq
  have hq2 : q.2 ∈ h := (List.of_mem_zip (List.mem_of_mem_drop hq)).2
  rw [xi_ea_app (by rw [hl]; exact List.all_eq_true.mp hw q.2 hq2)]
