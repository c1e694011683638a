/-! The little machine as a function: closed runs by the kernel. DRAFT until it has compiled once. -/
def xi_isl (o : xi_O) : Bool := match o with
  | .inl _ => true
  | .inr _ => false
def xi_exec : Nat → xi_M → Nat → Nat → xi_S → Option (xi_O × List xi_C × Nat × Nat)
  | 0, _, _, _, _ => none
  | f + 1, mt, k, n, s => match mt.1[s.1]? with
    | some (some r) => match xi_pure xi_ks r s with
      | some q => xi_exec f mt (k + q.2.1) (n + q.2.2) q.1
      | none => match xi_ret r.1 s.2.2.1 with
        | some v => bif xi_rok mt.2.2 v then some (.inl v, s.2.2.2, k, n) else none
        | none => match xi_thr mt.1 s.1 r with
          | some x => bif mt.2.1.isEmpty && decide ((s.2.2.1.map fun v => v.category).sum ≤ 8) then some (.inr x, s.2.2.2, k + 1, n + 6) else none
          | none => match xi_inv xi_vt r s.2.2.1 s.2.2.2 with
            | some c => match xt_tab[c.1]? with
              | some mc => bif decide ((c.2.1.map fun v => v.category).sum ≤ xl_tab.getD c.1 0) && decide ((c.2.2.map fun v => v.category).sum ≤ 8) then (match xi_exec f mc 0 0 (0, lv_args 0 c.2.1, [], s.2.2.2) with
                | some w => bif (s.2.2.2.length == w.2.1.length || xi_wf s.2.1 c.2.2 s.2.2.2) && (xi_mayx r || xi_isl w.1) then (match w.1 with
                  | .inl v => xi_exec f mt (k + w.2.2.1) (n + w.2.2.2) (s.1 + 3, s.2.1, v.toList ++ c.2.2, w.2.1)
                  | .inr x => match xi_hdl mt.2.1 s.1 x with
                    | none => some (.inr x, w.2.1, k + w.2.2.1, n + w.2.2.2)
                    | some at9 => match xi_cat mt.1 at9 s.2.1 with
                      | some z => xi_exec f mt (k + w.2.2.1) (n + w.2.2.2) (z.1, z.2, [], w.2.1)
                      | none => none) else none
                | none => none) else none
              | none => none
            | none => none
    | _ => none
theorem xi_go.wide {ks : List xi_K} {vt : Nat → Nat → Option Nat} {mt : xi_M} {C : xi_Rel} {K N K' N' : Nat} {Q : xi_O → List xi_C → Prop} (hK : K ≤ K') (hN : N ≤ N') :
    ∀ (f k n : Nat) (s : xi_S), xi_go ks vt mt C K N Q f k n s → xi_go ks vt mt C K' N' Q f k n s := by
  intro f
  induction f with
  | zero => intro k n s h; exact h.elim
  | succ f ih =>
    intro k n s h
    obtain ⟨r, hr, h⟩ := h
    refine ⟨r, hr, ?_⟩
    rcases h with ⟨t, dk, dn, h1, h2, h3, h4⟩ | ⟨v, h1, h2, h3, h4, h5⟩ | ⟨x, h1, h2, h3, h4, h5, h6⟩ | ⟨y, as, rest, o, h, dk, dn, h1, h2, h3, h4, h5, h6, h6b, h7⟩
    · exact Or.inl ⟨t, dk, dn, h1, Nat.le_trans h2 hK, Nat.le_trans h3 hN, ih _ _ _ h4⟩
    · exact Or.inr (Or.inl ⟨v, h1, h2, Nat.le_trans h3 hK, Nat.le_trans h4 hN, h5⟩)
    · exact Or.inr (Or.inr (Or.inl ⟨x, h1, h2, h3, Nat.le_trans h4 hK, Nat.le_trans h5 hN, h6⟩))
    · refine Or.inr (Or.inr (Or.inr ⟨y, as, rest, o, h, dk, dn, h1, h2, h3, Nat.le_trans h4 hK, Nat.le_trans h5 hN, h6, h6b, ?_⟩))
      cases o with
      | inl v => exact ih _ _ _ h7
      | inr x =>
        dsimp only at h7 ⊢
        split at h7
        · exact h7
        · obtain ⟨pc, ls, q1, q2⟩ := h7
          exact ⟨pc, ls, q1, ih _ _ _ q2⟩
theorem xi_at.wide {d y : Nat} {as : List Value} {h : List xi_C} {o : xi_O} {h2 : List xi_C} {K N K' N' : Nat} (e : xi_at d y as h o h2 K N) (hK : K ≤ K') (hN : N ≤ N') : xi_at d y as h o h2 K' N' := by
  cases d with
  | zero => exact e.elim
  | succ d =>
    obtain ⟨mt, h1, h3, f, e⟩ := e
    exact ⟨mt, h1, h3, f, xi_go.wide hK hN f 0 0 _ e⟩
theorem xi_at.le {d d' y : Nat} {as : List Value} {h : List xi_C} {o : xi_O} {h2 : List xi_C} {K N : Nat} (e : xi_at d y as h o h2 K N) (hd : d ≤ d') : xi_at d' y as h o h2 K N := by
  induction hd with
  | refl => exact e
  | step _ ih => exact xi_at.up _ ih
theorem xi_exec_ok : ∀ (f : Nat) (mt : xi_M) (k n : Nat) (s : xi_S) (o : xi_O) (h2 : List xi_C) (k' n' : Nat), xi_exec f mt k n s = some (o, h2, k', n') → ∀ d, f ≤ d → k ≤ k' ∧ n ≤ n' ∧ ∀ K N, k' ≤ K → n' ≤ N → xi_go xi_ks xi_vt mt (xi_at d) K N (fun o1 h1 => o1 = o ∧ h1 = h2) f k n s := by
  intro f
  induction f with
  | zero => intro mt k n s o h2 k' n' h; cases h
  | succ f ih =>
    intro mt k n s o h2 k' n' h d hd
    unfold xi_exec at h
    split at h
    · rename_i r hr
      split at h
      · rename_i q hp
        obtain ⟨t, dk, dn⟩ := q
        obtain ⟨g1, g2, g3⟩ := ih mt _ _ _ _ _ _ _ h d (by omega)
        dsimp only at g1 g2 g3
        refine ⟨by omega, by omega, fun K N hK hN => ?_⟩
        exact ⟨r, hr, Or.inl ⟨t, dk, dn, hp, by omega, by omega, g3 K N hK hN⟩⟩
      · split at h
        · rename_i v hv
          cases hro : xi_rok mt.2.2 v with
          | false => rw [hro] at h; cases h
          | true =>
            rw [hro] at h
            cases h
            exact ⟨Nat.le_refl _, Nat.le_refl _, fun K N hK hN => ⟨r, hr, Or.inr (Or.inl ⟨v, hv, hro, hK, hN, rfl, rfl⟩)⟩⟩
        · split at h
          · rename_i x hx
            cases hc : (mt.2.1.isEmpty && decide ((s.2.2.1.map fun v => v.category).sum ≤ 8)) with
            | false => rw [hc] at h; cases h
            | true =>
              rw [hc] at h
              cases h
              obtain ⟨c1, c2⟩ := Bool.and_eq_true_iff.mp hc
              exact ⟨by omega, by omega, fun K N hK hN => ⟨r, hr, Or.inr (Or.inr (Or.inl ⟨x, hx, List.isEmpty_iff.mp c1, of_decide_eq_true c2, hK, hN, rfl, rfl⟩))⟩⟩
          · split at h
            · rename_i c hi
              obtain ⟨y, as, rest⟩ := c
              dsimp only at h
              split at h
              · rename_i mc hmc
                cases hc : (decide ((as.map fun v => v.category).sum ≤ xl_tab.getD y 0) && decide ((rest.map fun v => v.category).sum ≤ 8)) with
                | false => rw [hc] at h; cases h
                | true =>
                  rw [hc] at h
                  simp only [cond_true] at h
                  obtain ⟨c1, c2⟩ := Bool.and_eq_true_iff.mp hc
                  split at h
                  · rename_i w hw
                    obtain ⟨o9, h9, dk, dn⟩ := w
                    dsimp only at h
                    cases hb : ((s.2.2.2.length == h9.length || xi_wf s.2.1 rest s.2.2.2) && (xi_mayx r || xi_isl o9)) with
                    | false => rw [hb] at h; cases h
                    | true =>
                      rw [hb] at h
                      simp only [cond_true] at h
                      obtain ⟨b1, b2⟩ := Bool.and_eq_true_iff.mp hb
                      have b1 : s.2.2.2.length = h9.length ∨ xi_wf s.2.1 rest s.2.2.2 = true := by
                        rcases Bool.or_eq_true_iff.mp b1 with z | z
                        · exact Or.inl (by simpa using z)
                        · exact Or.inr z
                      have b2 : xi_mayx r = true ∨ ∃ v, o9 = .inl v := by
                        rcases Bool.or_eq_true_iff.mp b2 with z | z
                        · exact Or.inl z
                        · cases o9 with
                          | inl v => exact Or.inr ⟨v, rfl⟩
                          | inr x => cases z
                      obtain ⟨d, rfl⟩ : ∃ d9, d = d9 + 1 := ⟨d - 1, by omega⟩
                      obtain ⟨-, -, gc⟩ := ih mc 0 0 _ _ _ _ _ hw d (by omega)
                      have hat : xi_at (d + 1) y as s.2.2.2 o9 h9 dk dn := ⟨mc, hmc, of_decide_eq_true c1, f, gc dk dn (Nat.le_refl _) (Nat.le_refl _)⟩
                      cases o9 with
                      | inl v =>
                        dsimp only at h
                        obtain ⟨g1, g2, g3⟩ := ih mt _ _ _ _ _ _ _ h (d + 1) (by omega)
                        refine ⟨by omega, by omega, fun K N hK hN => ⟨r, hr, Or.inr (Or.inr (Or.inr ⟨y, as, rest, .inl v, h9, dk, dn, hi, of_decide_eq_true c2, hat, by omega, by omega, b1, b2, g3 K N hK hN⟩))⟩⟩
                      | inr x =>
                        dsimp only at h
                        split at h
                        · rename_i hn
                          cases h
                          refine ⟨by omega, by omega, fun K N hK hN => ⟨r, hr, Or.inr (Or.inr (Or.inr ⟨y, as, rest, .inr x, _, dk, dn, hi, of_decide_eq_true c2, hat, hK, hN, b1, b2, ?_⟩))⟩⟩
                          dsimp only
                          rw [hn]
                          exact ⟨rfl, rfl⟩
                        · rename_i at9 hn
                          split at h
                          · rename_i z hz
                            obtain ⟨pc, ls⟩ := z
                            obtain ⟨g1, g2, g3⟩ := ih mt _ _ _ _ _ _ _ h (d + 1) (by omega)
                            refine ⟨by omega, by omega, fun K N hK hN => ⟨r, hr, Or.inr (Or.inr (Or.inr ⟨y, as, rest, .inr x, h9, dk, dn, hi, of_decide_eq_true c2, hat, by omega, by omega, b1, b2, ?_⟩))⟩⟩
                            dsimp only
                            rw [hn]
                            exact ⟨pc, ls, hz, g3 K N hK hN⟩
                          · cases h
                  · cases h
              · cases h
            · cases h
    · cases h
-- a call by its run
def xi_call (f y : Nat) (as : List Value) (h : List xi_C) : Option (xi_O × List xi_C × Nat × Nat) := match xt_tab[y]? with
  | some mt => bif decide ((as.map fun v => v.category).sum ≤ xl_tab.getD y 0) then xi_exec f mt 0 0 (0, lv_args 0 as, [], h) else none
  | none => none
theorem xi_call_ok {f y : Nat} {as : List Value} {h : List xi_C} {o : xi_O} {h2 : List xi_C} {k n : Nat} (e : xi_call f y as h = some (o, h2, k, n)) {d : Nat} (hd : f ≤ d) {K N : Nat} (hK : k ≤ K) (hN : n ≤ N) : xi_at (d + 1) y as h o h2 K N := by
  unfold xi_call at e
  split at e
  · rename_i mt hmt
    cases hc : decide ((as.map fun v => v.category).sum ≤ xl_tab.getD y 0) with
    | false => rw [hc] at e; cases e
    | true =>
      rw [hc] at e
      simp only [cond_true] at e
      exact ⟨mt, hmt, of_decide_eq_true hc, f, (xi_exec_ok f mt 0 0 _ o h2 k n e d hd).2.2 K N hK hN⟩
  · cases e
