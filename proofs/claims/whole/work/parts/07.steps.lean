/-! One step of the little machine is a step of the machine: what doesn't touch the heap. DRAFT until it has compiled once. -/
section XS
variable {p : Program} {l : Launch} {e : Env} {R : Room} {s : State} {m : MethodId} {args : Array Value} {below : List Frame} {meth : Method} {c : Code} {H : Heap} {locs : List Loc} {cells slots : Nat} {Q : State → Prop}
variable {cc : ByteArray} {pc : Nat} {ls : Array Slot} {as : List Nat} {rest : List Value} {nL : Nat}
set_option maxHeartbeats 4000000 in
theorem xi_lod_ok (hx : p.tables.exec = Jvm.exec) (hb : c.code = cc) {i : Instr} {own : String} {lv : xi_L} {v : Int32} {w : Value} (hd : decode cc pc = .ok (i, xi_len i)) (hown : s.vm.findClass own = some m.cls)
    (hc : ∀ k, i = .ldc k ∨ i = .ldc_w k → (Jvm.Cond.constant own k v).before args s = true) (hl : lv_has ls nL (xi_el as lv)) (h : xi_lod i lv v = some w)
    (kk : W p l e R s m args below meth c H locs cells slots Q (F0 m (pc + xi_len i) ls (xi_em as w :: rest))) : W p l e R s m args below meth c H locs cells slots Q (F0 m pc ls rest) := by
  unfold xi_lod at h
  split at h
  · split at h
    · rename_i k _ x hk
      cases h
      exact lv_iload_n hx hb hd rfl (xi_el_at hl hk) kk
    · cases h
  · split at h
    · rename_i k _ x hk
      cases h
      exact lv_iload hx hb hd (xi_el_at hl hk) kk
    · cases h
  · split at h
    · rename_i k _ x hk
      cases h
      exact lv_aload_n hx hb hd rfl (xi_el_at hl hk) kk
    · cases h
  · split at h
    · rename_i k _ x hk
      cases h
      exact lv_aload hx hb hd (xi_el_at hl hk) kk
    · cases h
  · cases h
    exact lv_iconst hx hb hd rfl kk
  · cases h
    exact lv_bipush hx hb hd rfl kk
  · cases h
    exact lv_sipush hx hb hd rfl kk
  · rename_i k
    cases h
    exact lv_ldc hx hb hown (hc k (Or.inl rfl)) hd kk
  · rename_i k
    cases h
    exact lv_ldcw hx hb hown (hc k (Or.inr rfl)) hd kk
  · cases h
def xi_six (i : Instr) : Nat := match i with
  | .istore_n k => k.val
  | .istore k => k
  | .astore_n k => k.val
  | .astore k => k
  | .iinc k _ => k
  | _ => 0
set_option maxHeartbeats 4000000 in
theorem xi_str_ok (hx : p.tables.exec = Jvm.exec) (hb : c.code = cc) {i : Instr} {lv lv' : xi_L} {st st' : List Value} (hd : decode cc pc = .ok (i, xi_len i)) (hn : xi_six i < nL) (hl : lv_has ls nL (xi_el as lv)) (h : xi_str i lv st = some (lv', st'))
    (kk : ∀ ls' : Array Slot, lv_has ls' nL (xi_el as lv') → W p l e R s m args below meth c H locs cells slots Q (F0 m (pc + xi_len i) ls' (st'.map (xi_em as)))) : W p l e R s m args below meth c H locs cells slots Q (F0 m pc ls (st.map (xi_em as))) := by
  unfold xi_str at h
  split at h
  · split at h
    · rename_i k _ x st1
      cases h
      exact lv_istore_n hx hb hd rfl hl hn (xi_el_sto as lv k.val (.int x)) kk
    · cases h
  · split at h
    · rename_i k _ x st1
      cases h
      exact lv_istore hx hb hd hl hn (xi_el_sto as lv k (.int x)) kk
    · cases h
  · split at h
    · rename_i k _ x st1
      cases h
      exact lv_astore_n hx hb hd rfl hl hn (xi_el_sto as lv k.val (.ref x)) kk
    · cases h
  · split at h
    · rename_i k _ x st1
      cases h
      exact lv_astore hx hb hd hl hn (xi_el_sto as lv k (.ref x)) kk
    · cases h
  · split at h
    · rename_i k d _ x hk
      cases h
      obtain ⟨j, hj⟩ := List.getElem?_of_mem (List.mem_map.mpr ⟨(k, Value.int x), xi_look_mem hk, rfl⟩ : (k, xi_em as (.int x)) ∈ xi_el as lv)
      exact lv_iinc hx hb hd hl hj rfl hn (xi_el_sto as lv k (.int (x + Int32.ofInt d))) kk
    · cases h
  · cases h
set_option maxHeartbeats 4000000 in
theorem xi_bin_ok (hx : p.tables.exec = Jvm.exec) (hb : c.code = cc) {i : Instr} {x y z : Int32} (hd : decode cc pc = .ok (i, xi_len i)) (h : xi_bin i x y = some z)
    (kk : W p l e R s m args below meth c H locs cells slots Q (F0 m (pc + xi_len i) ls (.int z :: rest))) : W p l e R s m args below meth c H locs cells slots Q (F0 m pc ls (.int y :: .int x :: rest)) := by
  unfold xi_bin at h
  split at h
  · cases h; exact lv_iadd hx hb hd kk
  · cases h; exact lv_isub hx hb hd kk
  · cases h; exact lv_imul hx hb hd kk
  · cases h; exact lv_iand hx hb hd kk
  · cases h; exact lv_ior hx hb hd kk
  · cases h; exact lv_ixor hx hb hd kk
  · cases h; exact lv_ishl hx hb hd kk
  · cases h; exact lv_ishr hx hb hd kk
  · cases h; exact lv_iushr hx hb hd rfl kk
  · by_cases hy : y = 0
    · rw [decide_eq_true hy] at h; cases h
    · rw [decide_eq_false hy] at h; cases h; exact lv_idiv hx hb hd hy kk
  · by_cases hy : y = 0
    · rw [decide_eq_true hy] at h; cases h
    · rw [decide_eq_false hy] at h; cases h; exact lv_irem hx hb hd hy kk
  · cases h
set_option maxHeartbeats 4000000 in
theorem xi_stk_ok (hx : p.tables.exec = Jvm.exec) (hb : c.code = cc) {i : Instr} {st st' : List Value} (hd : decode cc pc = .ok (i, xi_len i)) (h : xi_stk i st = some st')
    (kk : W p l e R s m args below meth c H locs cells slots Q (F0 m (pc + xi_len i) ls (st'.map (xi_em as)))) : W p l e R s m args below meth c H locs cells slots Q (F0 m pc ls (st.map (xi_em as))) := by
  unfold xi_stk at h
  split at h
  · split at h
    · cases h; exact lv_dup hx hb hd rfl kk
    · cases h; exact lv_dup hx hb hd rfl kk
    · cases h
  · split at h
    · cases h; exact lv_dup2_11 hx hb hd rfl rfl kk
    · cases h
  · split at h
    · cases h; exact lv_i2l hx hb hd rfl kk
    · cases h
  · split at h
    · cases h; exact W.lcmp hx hb hd kk
    · cases h
  · split at h
    · rename_i y x st1
      obtain ⟨z, hz, h2⟩ := Option.map_eq_some_iff.mp h
      subst h2
      exact xi_bin_ok hx hb hd hz kk
    · cases h
def xi_off (i : Instr) : Int := match i with
  | .goto o => o
  | .ifCond _ o => o
  | .if_icmp _ o => o
  | _ => 0
def xi_isbr (i : Instr) : Bool := match i with
  | .goto _ => true
  | .ifCond _ _ => true
  | .if_icmp _ _ => true
  | _ => false
theorem xi_bt {b : Bool} {x y : Nat} {P : Nat → Prop} (h : b = true) (k : P (bif b then x else y)) : P x := by subst h; exact k
theorem xi_bf {b : Bool} {x y : Nat} {P : Nat → Prop} (h : b = false) (k : P (bif b then x else y)) : P y := by subst h; exact k
set_option maxHeartbeats 4000000 in
theorem xi_brn_ok (hx : p.tables.exec = Jvm.exec) (hb : c.code = cc) {i : Instr} {a pc' len : Nat} {st st' : List Value} (hd : decode cc pc = .ok (i, len)) (hlen : xi_isbr i = true → len = xi_len i) (ht : xi_isbr i = true → (pc : Int) + xi_off i = (a : Int)) (h : xi_brn i a pc st = some (pc', st'))
    (kk : W p l e R s m args below meth c H locs cells slots Q (F0 m pc' ls (st'.map (xi_em as)))) : W p l e R s m args below meth c H locs cells slots Q (F0 m pc ls (st.map (xi_em as))) := by
  unfold xi_brn at h
  split at h
  · cases h
    rw [hlen rfl] at hd
    exact lv_goto hx hb hd (ht rfl) kk
  · split at h
    · rename_i cd o _ x st1
      cases h
      rw [hlen rfl] at hd
      have kt : xi_cmp cd x 0 = true → W p l e R s m args below meth c H locs cells slots Q (F0 m a ls (st'.map (xi_em as))) := fun h9 => by rw [h9] at kk; exact kk
      have kf : xi_cmp cd x 0 = false → W p l e R s m args below meth c H locs cells slots Q (F0 m (pc + 3) ls (st'.map (xi_em as))) := fun h9 => by rw [h9] at kk; exact kk
      cases cd with
      | eq => exact lv_if_eq hx hb hd (ht rfl) (fun h => kt (decide_eq_true h)) (fun h => kf (decide_eq_false h))
      | ne => exact lv_if_ne hx hb hd (ht rfl) (fun h => kt (by simp [xi_cmp, h])) (fun h => kf (by simp [xi_cmp, h]))
      | lt => exact lv_if_lt hx hb hd (ht rfl) (fun h => kt (decide_eq_true h)) (fun h => kf (decide_eq_false h))
      | ge => exact lv_if_ge hx hb hd (ht rfl) (fun h => kt (decide_eq_true h)) (fun h => kf (decide_eq_false h))
      | gt => exact lv_if_gt hx hb hd (ht rfl) (fun h => kt (decide_eq_true h)) (fun h => kf (decide_eq_false h))
      | le => exact lv_if_le hx hb hd (ht rfl) (fun h => kt (decide_eq_true h)) (fun h => kf (decide_eq_false h))
    · cases h
  · split at h
    · rename_i cd o _ y x st1
      cases h
      rw [hlen rfl] at hd
      have kt : xi_cmp cd x y = true → W p l e R s m args below meth c H locs cells slots Q (F0 m a ls (st'.map (xi_em as))) := fun h9 => by rw [h9] at kk; exact kk
      have kf : xi_cmp cd x y = false → W p l e R s m args below meth c H locs cells slots Q (F0 m (pc + 3) ls (st'.map (xi_em as))) := fun h9 => by rw [h9] at kk; exact kk
      cases cd with
      | eq => exact lv_icmp_eq hx hb hd (ht rfl) (fun h => kt (decide_eq_true h)) (fun h => kf (decide_eq_false h))
      | ne => exact lv_icmp_ne hx hb hd (ht rfl) (fun h => kt (by simp [xi_cmp, h])) (fun h => kf (by simp [xi_cmp, h]))
      | lt => exact lv_icmp_lt hx hb hd (ht rfl) (fun h => kt (decide_eq_true h)) (fun h => kf (decide_eq_false h))
      | ge => exact lv_icmp_ge hx hb hd (ht rfl) (fun h => kt (decide_eq_true h)) (fun h => kf (decide_eq_false h))
      | gt => exact lv_icmp_gt hx hb hd (ht rfl) (fun h => kt (decide_eq_true h)) (fun h => kf (decide_eq_false h))
      | le => exact lv_icmp_le hx hb hd (ht rfl) (fun h => kt (decide_eq_true h)) (fun h => kf (decide_eq_false h))
    · cases h
  · split at h
    · rename_i d lo hi offs _ x st1
      by_cases h1 : x.toInt < lo
      · simp [h1] at h
      · by_cases h2 : hi < x.toInt
        · simp [h2] at h
        · simp only [h1, h2, decide_false, Bool.or_self, cond_false] at h
          split at h
          · rename_i o ho
            by_cases h3 : 0 ≤ (pc : Int) + o
            · simp only [h3, decide_true, cond_true, Option.some.injEq, Prod.mk.injEq] at h
              obtain ⟨rfl, rfl⟩ := h
              exact lv_tableIn hx hb hd h1 h2 ho (Int.toNat_of_nonneg h3).symm kk
            · simp [h3] at h
          · cases h
    · cases h
  · cases h
end XS
