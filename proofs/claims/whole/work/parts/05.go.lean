/-! Runs of the little machine, goal first. DRAFT until it has compiled once. -/
def xi_rok (k : Nat) (v : Option Value) : Bool := match k, v with
  | 0, none => true
  | 1, some (.int _) => true
  | 2, some (.int x) => decide (x = 0) || decide (x = 1)
  | _, _ => false
abbrev xi_Rel : Type := Nat → List Value → List xi_C → xi_O → List xi_C → Nat → Nat → Prop
-- may the callee of this row throw
def xi_mayx (r : xi_R) : Bool := match r.1 with
  | .invokestatic _ => !(r.2.1 == xi_up)
  | .invokevirtual _ => decide (r.2.1 < 900)
  | _ => false
def xi_go (ks : List xi_K) (vt : Nat → Nat → Option Nat) (mt : xi_M) (C : xi_Rel) (K N : Nat) (Q : xi_O → List xi_C → Prop) : Nat → Nat → Nat → xi_S → Prop
  | 0, _, _, _ => False
  | f + 1, k, n, s => ∃ r, mt.1[s.1]? = some (some r) ∧
      ((∃ t dk dn, xi_pure ks r s = some (t, dk, dn) ∧ k + dk ≤ K ∧ n + dn ≤ N ∧ xi_go ks vt mt C K N Q f (k + dk) (n + dn) t)
      ∨ (∃ v, xi_ret r.1 s.2.2.1 = some v ∧ xi_rok mt.2.2 v = true ∧ k ≤ K ∧ n ≤ N ∧ Q (.inl v) s.2.2.2)
      ∨ (∃ x, xi_thr mt.1 s.1 r = some x ∧ mt.2.1 = [] ∧ (s.2.2.1.map fun v => v.category).sum ≤ 8 ∧ k + 1 ≤ K ∧ n + 6 ≤ N ∧ Q (.inr x) s.2.2.2)
      ∨ (∃ y as rest o h dk dn, xi_inv vt r s.2.2.1 s.2.2.2 = some (y, as, rest) ∧ (rest.map fun v => v.category).sum ≤ 8 ∧ C y as s.2.2.2 o h dk dn ∧ k + dk ≤ K ∧ n + dn ≤ N
          ∧ (s.2.2.2.length = h.length ∨ xi_wf s.2.1 rest s.2.2.2 = true) ∧ (xi_mayx r = true ∨ ∃ v, o = .inl v)
          ∧ match o with
            | .inl v => xi_go ks vt mt C K N Q f (k + dk) (n + dn) (s.1 + 3, s.2.1, v.toList ++ rest, h)
            | .inr x => match xi_hdl mt.2.1 s.1 x with
              | none => Q (.inr x) h
              | some w => ∃ pc ls, xi_cat mt.1 w s.2.1 = some (pc, ls) ∧ xi_go ks vt mt C K N Q f (k + dk) (n + dn) (pc, ls, [], h)))
-- the call of method y at depth d
def xi_at : Nat → xi_Rel
  | 0 => fun _ _ _ _ _ _ _ => False
  | d + 1 => fun y as h o h2 K N => ∃ mt, xt_tab[y]? = some mt ∧ (as.map fun v => v.category).sum ≤ xl_tab.getD y 0 ∧ ∃ f, xi_go xi_ks xi_vt mt (xi_at d) K N (fun o1 h1 => o1 = o ∧ h1 = h2) f 0 0 (0, lv_args 0 as, [], h)
def xi_E (ks : List xi_K) (vt : Nat → Nat → Option Nat) (mt : xi_M) (C : xi_Rel) (K N : Nat) (Q : xi_O → List xi_C → Prop) (k n : Nat) (s : xi_S) : Prop := ∃ f, xi_go ks vt mt C K N Q f k n s
-- so many pure steps that make nothing
def xi_run (ks : List xi_K) (rows : List (Option xi_R)) : Nat → xi_S → Option xi_S
  | 0, s => some s
  | j + 1, s => match rows[s.1]? with
    | some (some r) => match xi_pure ks r s with
      | some (t, 0, 0) => xi_run ks rows j t
      | _ => none
    | _ => none
section XE
variable {ks : List xi_K} {vt : Nat → Nat → Option Nat} {mt : xi_M} {C : xi_Rel} {K N : Nat} {Q : xi_O → List xi_C → Prop} {k n : Nat}
theorem xi_E.run (hk : k ≤ K) (hn : n ≤ N) : ∀ (j : Nat) {s t : xi_S}, xi_run ks mt.1 j s = some t → xi_E ks vt mt C K N Q k n t → xi_E ks vt mt C K N Q k n s := by
  intro j
  induction j with
  | zero =>
    intro s t h e
    cases h
    exact e
  | succ j ih =>
    intro s t h e
    unfold xi_run at h
    split at h
    · rename_i r hr
      split at h
      · rename_i u hu
        obtain ⟨f, hf⟩ := ih h e
        exact ⟨f + 1, r, hr, Or.inl ⟨u, 0, 0, hu, hk, hn, hf⟩⟩
      · cases h
    · cases h
-- one step of any kind of pure
theorem xi_E.one {s t : xi_S} {r : xi_R} {dk dn : Nat} (hr : mt.1[s.1]? = some (some r)) (hp : xi_pure ks r s = some (t, dk, dn)) (hk : k + dk ≤ K) (hn : n + dn ≤ N) (e : xi_E ks vt mt C K N Q (k + dk) (n + dn) t) : xi_E ks vt mt C K N Q k n s := by
  obtain ⟨f, e⟩ := e
  exact ⟨f + 1, r, hr, Or.inl ⟨t, dk, dn, hp, hk, hn, e⟩⟩
-- a pure step to a pc that hangs on a Bool
theorem xi_E.brn (hk : k ≤ K) (hn : n ≤ N) {s : xi_S} {r : xi_R} {b : Bool} {x y : Nat} {ls : xi_L} {st : List Value} {h : List xi_C}
    (hr : mt.1[s.1]? = some (some r)) (hp : xi_pure ks r s = some ((bif b then x else y, ls, st, h), 0, 0))
    (ht : b = true → xi_E ks vt mt C K N Q k n (x, ls, st, h)) (hf : b = false → xi_E ks vt mt C K N Q k n (y, ls, st, h)) : xi_E ks vt mt C K N Q k n s := by
  cases b with
  | true => exact xi_E.one (dk := 0) (dn := 0) hr hp hk hn (ht rfl)
  | false => exact xi_E.one (dk := 0) (dn := 0) hr hp hk hn (hf rfl)
theorem xi_E.ret {s : xi_S} {r : xi_R} {v : Option Value} (hk : k ≤ K) (hn : n ≤ N) (hr : mt.1[s.1]? = some (some r)) (hv : xi_ret r.1 s.2.2.1 = some v) (ho : xi_rok mt.2.2 v = true) (hq : Q (.inl v) s.2.2.2) : xi_E ks vt mt C K N Q k n s :=
  ⟨1, r, hr, Or.inr (Or.inl ⟨v, hv, ho, hk, hn, hq⟩)⟩
theorem xi_E.thr {s : xi_S} {r : xi_R} {x : Nat} (hr : mt.1[s.1]? = some (some r)) (hx : xi_thr mt.1 s.1 r = some x) (h0 : mt.2.1 = []) (hw : (s.2.2.1.map fun v => v.category).sum ≤ 8) (hk : k + 1 ≤ K) (hn : n + 6 ≤ N) (hq : Q (.inr x) s.2.2.2) : xi_E ks vt mt C K N Q k n s :=
  ⟨1, r, hr, Or.inr (Or.inr (Or.inl ⟨x, hx, h0, hw, hk, hn, hq⟩))⟩
theorem xi_E.call {dk dn : Nat} {s : xi_S} {r : xi_R} {y : Nat} {as rest : List Value} {v : Option Value} {h : List xi_C}
    (hr : mt.1[s.1]? = some (some r)) (hi : xi_inv vt r s.2.2.1 s.2.2.2 = some (y, as, rest)) (hw : (rest.map fun v => v.category).sum ≤ 8) (hc : C y as s.2.2.2 (.inl v) h dk dn) (hk : k + dk ≤ K) (hn : n + dn ≤ N) (hl : s.2.2.2.length = h.length ∨ xi_wf s.2.1 rest s.2.2.2 = true)
    (e : xi_E ks vt mt C K N Q (k + dk) (n + dn) (s.1 + 3, s.2.1, v.toList ++ rest, h)) : xi_E ks vt mt C K N Q k n s := by
  obtain ⟨f, e⟩ := e
  exact ⟨f + 1, r, hr, Or.inr (Or.inr (Or.inr ⟨y, as, rest, .inl v, h, dk, dn, hi, hw, hc, hk, hn, hl, Or.inr ⟨v, rfl⟩, e⟩))⟩
-- a call that throws, not taken here
theorem xi_E.callX {dk dn : Nat} {s : xi_S} {r : xi_R} {y x : Nat} {as rest : List Value} {h : List xi_C}
    (hr : mt.1[s.1]? = some (some r)) (hi : xi_inv vt r s.2.2.1 s.2.2.2 = some (y, as, rest)) (hw : (rest.map fun v => v.category).sum ≤ 8) (hc : C y as s.2.2.2 (.inr x) h dk dn) (hk : k + dk ≤ K) (hn : n + dn ≤ N) (hl : s.2.2.2.length = h.length ∨ xi_wf s.2.1 rest s.2.2.2 = true)
    (hm : xi_mayx r = true) (h0 : xi_hdl mt.2.1 s.1 x = none) (hq : Q (.inr x) h) : xi_E ks vt mt C K N Q k n s :=
  ⟨1, r, hr, Or.inr (Or.inr (Or.inr ⟨y, as, rest, .inr x, h, dk, dn, hi, hw, hc, hk, hn, hl, Or.inl hm, by
    show (match xi_hdl mt.2.1 s.1 x with
      | none => Q (.inr x) h
      | some w => _)
    rw [h0]
    exact hq⟩))⟩
-- a call that throws, taken by a handler
theorem xi_E.callC {dk dn : Nat} {s : xi_S} {r : xi_R} {y x w pc : Nat} {as rest : List Value} {h : List xi_C} {ls : xi_L}
    (hr : mt.1[s.1]? = some (some r)) (hi : xi_inv vt r s.2.2.1 s.2.2.2 = some (y, as, rest)) (hw : (rest.map fun v => v.category).sum ≤ 8) (hc : C y as s.2.2.2 (.inr x) h dk dn) (hk : k + dk ≤ K) (hn : n + dn ≤ N) (hl : s.2.2.2.length = h.length ∨ xi_wf s.2.1 rest s.2.2.2 = true)
    (hm : xi_mayx r = true) (h0 : xi_hdl mt.2.1 s.1 x = some w) (h1 : xi_cat mt.1 w s.2.1 = some (pc, ls)) (e : xi_E ks vt mt C K N Q (k + dk) (n + dn) (pc, ls, [], h)) : xi_E ks vt mt C K N Q k n s := by
  obtain ⟨f, e⟩ := e
  refine ⟨f + 1, r, hr, Or.inr (Or.inr (Or.inr ⟨y, as, rest, .inr x, h, dk, dn, hi, hw, hc, hk, hn, hl, Or.inl hm, ?_⟩))⟩
  show (match xi_hdl mt.2.1 s.1 x with
    | none => Q (.inr x) h
    | some w => _)
  rw [h0]
  exact ⟨pc, ls, h1, e⟩
end XE
-- more depth, more bounds do no harm
theorem xi_go.mono {ks : List xi_K} {vt : Nat → Nat → Option Nat} {mt : xi_M} {C C' : xi_Rel} {K N : Nat} {Q Q' : xi_O → List xi_C → Prop} (hC : ∀ y as h o h2 dk dn, C y as h o h2 dk dn → C' y as h o h2 dk dn) (hQ : ∀ o h, Q o h → Q' o h) :
    ∀ (f k n : Nat) (s : xi_S), xi_go ks vt mt C K N Q f k n s → xi_go ks vt mt C' K N Q' f k n s := by
  intro f
  induction f with
  | zero => intro k n s h; exact h.elim
  | succ f ih =>
    intro k n s h
    obtain ⟨r, hr, h⟩ := h
    refine ⟨r, hr, ?_⟩
    rcases h with ⟨t, dk, dn, h1, h2, h3, h4⟩ | ⟨v, h1, h2, h3, h4, h5⟩ | ⟨x, h1, h2, h3, h4, h5, h6⟩ | ⟨y, as, rest, o, h, dk, dn, h1, h2, h3, h4, h5, h6, h6b, h7⟩
    · exact Or.inl ⟨t, dk, dn, h1, h2, h3, ih _ _ _ h4⟩
    · exact Or.inr (Or.inl ⟨v, h1, h2, h3, h4, hQ _ _ h5⟩)
    · exact Or.inr (Or.inr (Or.inl ⟨x, h1, h2, h3, h4, h5, hQ _ _ h6⟩))
    · refine Or.inr (Or.inr (Or.inr ⟨y, as, rest, o, h, dk, dn, h1, h2, hC _ _ _ _ _ _ _ h3, h4, h5, h6, h6b, ?_⟩))
      cases o with
      | inl v => exact ih _ _ _ h7
      | inr x =>
        dsimp only at h7 ⊢
        split at h7
        · exact hQ _ _ h7
        · obtain ⟨pc, ls, q1, q2⟩ := h7
          exact ⟨pc, ls, q1, ih _ _ _ q2⟩
theorem xi_at.up : ∀ (d : Nat) {y : Nat} {as : List Value} {h : List xi_C} {o : xi_O} {h2 : List xi_C} {K N : Nat}, xi_at d y as h o h2 K N → xi_at (d + 1) y as h o h2 K N := by
  intro d
  induction d with
  | zero => intro y as h o h2 K N e; exact e.elim
  | succ d ih =>
    intro y as h o h2 K N e
    obtain ⟨mt, h1, h2, f, e⟩ := e
    exact ⟨mt, h1, h2, f, xi_go.mono (fun _ _ _ _ _ _ _ => ih) (fun _ _ q => q) f 0 0 _ e⟩
