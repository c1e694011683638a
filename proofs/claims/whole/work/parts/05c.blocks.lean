/-! Blocks: pure steps with their side conditions beside them. DRAFT until it has compiled once. -/
-- one pure step that makes nothing: the conditions, the next state
def xi_prc (r : xi_R) (s : xi_S) : Option (List Bool × xi_S) := match r.1, s.2.2.1 with
  | .iaload, .int j :: .ref q :: st => (match s.2.2.2[q]? with
    | some (.inl l) => some ([xi_in j l.length], (s.1 + 1, s.2.1, .int (l.getD j.toNatClampNeg 0) :: st, s.2.2.2))
    | _ => none)
  | .iastore, .int x :: .int j :: .ref (q + 1) :: st => (match s.2.2.2[q + 1]? with
    | some (.inl l) => some ([xi_in j l.length], (s.1 + 1, s.2.1, st, s.2.2.2.set (q + 1) (.inl (l.set j.toNatClampNeg x))))
    | _ => none)
  | .idiv, .int y :: .int x :: st => some ([!decide (y = 0)], (s.1 + 1, s.2.1, .int (x / y) :: st, s.2.2.2))
  | .irem, .int y :: .int x :: st => some ([!decide (y = 0)], (s.1 + 1, s.2.1, .int (x - x / y * y) :: st, s.2.2.2))
  | _, _ => match xi_pure xi_ks r s with
    | some (t, 0, 0) => some ([], t)
    | _ => none
def xi_runc (rows : List (Option xi_R)) : Nat → xi_S → Option (List Bool × xi_S)
  | 0, s => some ([], s)
  | j + 1, s => match rows[s.1]? with
    | some (some r) => match xi_prc r s with
      | some a => match xi_runc rows j a.2 with
        | some b => some (a.1 ++ b.1, b.2)
        | none => none
      | none => none
    | _ => none
theorem xi_prc_ok {r : xi_R} {s t : xi_S} {cs : List Bool} (h : xi_prc r s = some (cs, t)) (hc : cs.all id = true) : xi_pure xi_ks r s = some (t, 0, 0) := by
  obtain ⟨i, a, b, v⟩ := r
  obtain ⟨pc, ls, st, hp⟩ := s
  unfold xi_prc at h
  dsimp only at h
  split at h
  · rename_i j q st1
    split at h
    · rename_i l hq
      cases h
      have hin : xi_in j l.length = true := by simpa using hc
      simp [xi_pure, xi_lod, xi_brn, xi_rd, hq, hin, xi_len]
    · cases h
  · rename_i x j q st1
    split at h
    · rename_i l hq
      cases h
      have hin : xi_in j l.length = true := by simpa using hc
      simp [xi_pure, xi_lod, xi_brn, xi_rd, xi_str, xi_wr, hq, hin, xi_len]
    · cases h
  · rename_i y x st1
    cases h
    have hy : ¬ y = 0 := by simpa using hc
    simp [xi_pure, xi_lod, xi_brn, xi_rd, xi_str, xi_wr, xi_stk, xi_bin, hy, xi_len]
  · rename_i y x st1
    cases h
    have hy : ¬ y = 0 := by simpa using hc
    simp [xi_pure, xi_lod, xi_brn, xi_rd, xi_str, xi_wr, xi_stk, xi_bin, hy, xi_len]
  · split at h
    · rename_i t1 hp1
      cases h
      exact hp1
    · cases h
section XB
variable {vt : Nat → Nat → Option Nat} {mt : xi_M} {C : xi_Rel} {K N : Nat} {Q : xi_O → List xi_C → Prop} {k n : Nat}
theorem xi_E.runc (hk : k ≤ K) (hn : n ≤ N) : ∀ (j : Nat) {s t : xi_S} {cs : List Bool}, xi_runc mt.1 j s = some (cs, t) → cs.all id = true → xi_E xi_ks vt mt C K N Q k n t → xi_E xi_ks vt mt C K N Q k n s := by
  intro j
  induction j with
  | zero =>
    intro s t cs h hc e
    cases h
    exact e
  | succ j ih =>
    intro s t cs h hc e
    unfold xi_runc at h
    split at h
    · rename_i r hr
      split at h
      · rename_i a ha
        split at h
        · rename_i b hb
          cases h
          rw [List.all_append, Bool.and_eq_true] at hc
          exact xi_E.one (dk := 0) (dn := 0) hr (xi_prc_ok (cs := a.1) (t := a.2) ha hc.1) hk hn (ih hb hc.2 e)
        · cases h
      · cases h
    · cases h
theorem xi_E.bif {b : Bool} {x y : Nat} {ls : xi_L} {st : List Value} {h : List xi_C} (ht : b = true → xi_E xi_ks vt mt C K N Q k n (x, ls, st, h)) (hf : b = false → xi_E xi_ks vt mt C K N Q k n (y, ls, st, h)) : xi_E xi_ks vt mt C K N Q k n (bif b then x else y, ls, st, h) := by
  cases b with
  | true => exact ht rfl
  | false => exact hf rfl
end XB
-- a call of a method is a run from its start
theorem xi_at.of {d y : Nat} {mt : xi_M} {as : List Value} {h : List xi_C} {o : xi_O} {h2 : List xi_C} {K N : Nat} (hm : xt_tab[y]? = some mt) (hl : decide ((as.map fun v => v.category).sum ≤ xl_tab.getD y 0) = true) (e : xi_E xi_ks xi_vt mt (xi_at d) K N (fun o1 h1 => o1 = o ∧ h1 = h2) 0 0 (0, lv_args 0 as, [], h)) : xi_at (d + 1) y as h o h2 K N := by
  obtain ⟨f, e⟩ := e
  exact ⟨mt, hm, of_decide_eq_true hl, f, e⟩
