/-! The induction. DRAFT until it has compiled once. -/
-- the handlers beside the machine's table
theorem xi_hdl_some {own : String} {pc x w : Nat} : ∀ {hh : List (Nat × Nat × Nat × Nat)} {hk : List (Nat × Nat × Nat × List Nat)}, xi_okh own hh hk → xi_hdl hk pc x = some w →
    ∃ (pre : List ExceptionTableEntry) (z : ExceptionTableEntry) (suf : List ExceptionTableEntry) (E : String), tableOf hh = pre ++ z :: suf ∧ z.handlerPc = w ∧ covers z pc = true ∧ z.catchType ≠ 0 ∧ xi_ex[x]? = some E ∧ (.classLink own z.catchType E : Cond) ∈ xi_gw ∧ Cond.castable E E ∈ xi_nw ∧
      ∀ u ∈ pre, covers u pc = false ∨ (u.catchType ≠ 0 ∧ ∃ x' E', x' ≠ x ∧ xi_ex[x']? = some E' ∧ (.classLink own u.catchType E' : Cond) ∈ xi_gw) := by
  intro hh
  induction hh with
  | nil =>
    intro hk ho h
    cases hk with
    | nil => cases h
    | cons q hk => cases ho
  | cons a hh ih =>
    intro hk ho h
    cases hk with
    | nil => cases ho
    | cons q hk =>
      obtain ⟨o1, o2, o3, o4, ⟨x', E', hx', hE', o7, o8⟩, o6⟩ := ho
      · · unfold xi_hdl at h
          rw [hx'] at h
          cases hc : (decide (q.1 ≤ pc) && decide (pc < q.2.1) && [x'].contains x) with
          | true =>
            rw [hc] at h
            have h : some q.2.2.1 = some w := h
            cases h
            obtain ⟨c1, c2⟩ := Bool.and_eq_true_iff.mp hc
            have c2 : x = x' := by simpa using c2
            subst c2
            exact ⟨[], ⟨a.1, a.2.1, a.2.2.1, a.2.2.2⟩, tableOf hh, E', rfl, o3, by show (decide (a.1 ≤ pc) && decide (pc < a.2.1)) = true; rw [o1, o2]; exact c1, o4, hE', o7, o8, fun u hu => by cases hu⟩
          | false =>
            rw [hc] at h
            have h : xi_hdl hk pc x = some w := h
            obtain ⟨pre, z, suf, E, g1, g2, g3, g4, g5, g6, g7, g8⟩ := ih o6 h
            refine ⟨⟨a.1, a.2.1, a.2.2.1, a.2.2.2⟩ :: pre, z, suf, E, by show _ :: tableOf hh = _; rw [g1]; rfl, g2, g3, g4, g5, g6, g7, fun u hu => ?_⟩
            rcases List.mem_cons.mp hu with rfl | hu
            · rcases Bool.and_eq_false_iff.mp hc with c1 | c1
              · exact Or.inl (by show (decide (a.1 ≤ pc) && decide (pc < a.2.1)) = false; rw [o1, o2]; exact c1)
              · exact Or.inr ⟨o4, x', E', by simpa [eq_comm] using c1, hE', o7⟩
            · exact g8 u hu
theorem xi_hdl_none {own : String} {pc x : Nat} : ∀ {hh : List (Nat × Nat × Nat × Nat)} {hk : List (Nat × Nat × Nat × List Nat)}, xi_okh own hh hk → xi_hdl hk pc x = none →
    ∀ u ∈ tableOf hh, covers u pc = false ∨ (u.catchType ≠ 0 ∧ ∃ x' E', x' ≠ x ∧ xi_ex[x']? = some E' ∧ (.classLink own u.catchType E' : Cond) ∈ xi_gw) := by
  intro hh
  induction hh with
  | nil => intro hk ho h u hu; cases hu
  | cons a hh ih =>
    intro hk ho h
    cases hk with
    | nil => cases ho
    | cons q hk =>
      obtain ⟨o1, o2, o3, o4, ⟨x', E', hx', hE', o7, o8⟩, o6⟩ := ho
      · · unfold xi_hdl at h
          rw [hx'] at h
          cases hc : (decide (q.1 ≤ pc) && decide (pc < q.2.1) && [x'].contains x) with
          | true => rw [hc] at h; cases h
          | false =>
            rw [hc] at h
            have h : xi_hdl hk pc x = none := h
            intro u hu
            rcases List.mem_cons.mp (show u ∈ (⟨a.1, a.2.1, a.2.2.1, a.2.2.2⟩ : ExceptionTableEntry) :: tableOf hh from hu) with rfl | hu
            · rcases Bool.and_eq_false_iff.mp hc with c1 | c1
              · exact Or.inl (by show (decide (a.1 ≤ pc) && decide (pc < a.2.1)) = false; rw [o1, o2]; exact c1)
              · exact Or.inr ⟨o4, x', E', by simpa [eq_comm] using c1, hE', o7⟩
            · exact ih o6 h u hu
-- kinds that differ: the classes are not castable
theorem xi_nc_of {x x' : Nat} {E E' : String} (hx : xi_ex[x]? = some E) (hx' : xi_ex[x']? = some E') (hne : x' ≠ x) : (E, E') ∈ xi_nc := by
  have h1 := (List.getElem?_eq_some_iff.mp hx).1
  have h2 := (List.getElem?_eq_some_iff.mp hx').1
  have h1 : x < 4 := h1
  have h2 : x' < 4 := h2
  rcases (show x = 0 ∨ x = 1 ∨ x = 2 ∨ x = 3 by omega) with rfl | rfl | rfl | rfl <;> rcases (show x' = 0 ∨ x' = 1 ∨ x' = 2 ∨ x' = 3 by omega) with rfl | rfl | rfl | rfl <;> first | exact absurd rfl hne | (cases hx; cases hx'; decide +kernel)
-- the two hand-made rows of the machine: to be proved
-- xi_siteU: a static method called by the name of a subclass;  xi_mna_ok: new int[4][4]
-- behind a call nothing that is well formed has changed its address
theorem xi_stab {as z : List Nat} {h h' : List xi_C} {lv : xi_L} {rest : List Value} (h1 : as.length = h.length) (h2 : (as ++ z).length = h'.length) (hw : h.length = h'.length ∨ xi_wf lv rest h = true) : rest.map (xi_em (as ++ z)) = rest.map (xi_em as) ∧ xi_el (as ++ z) lv = xi_el as lv := by
  rcases hw with hw | hw
  · have hz : z = [] := by
      rw [List.length_append] at h2
      exact List.eq_nil_of_length_eq_zero (by omega)
    subst hz
    rw [List.append_nil]
    exact ⟨rfl, rfl⟩
  · unfold xi_wf at hw
    obtain ⟨hw, -⟩ := Bool.and_eq_true_iff.mp hw
    obtain ⟨w1, w2⟩ := Bool.and_eq_true_iff.mp hw
    exact ⟨xi_em_apps (by rw [h1]; exact w2), xi_el_app (by rw [h1]; exact w1)⟩
section XM
variable {p : Program} {l : Launch} {e : Env} {s : State} {m : MethodId} {args : Array Value} {below : List Frame} {meth : Method} {c : Code}
variable {D : va_G} {cs : Nat → ClassId} {b base : Nat} {X : List Int32} {h2 : List xi_C} {o2 : xi_O} {K0 N0 y0 : Nat} {qc : xm_T} {mt : xi_M} {C : xi_Rel} {as0 : List Nat}
set_option maxHeartbeats 16000000 in
set_option maxRecDepth 100000 in
theorem xi_go_ok (hl : l.stackTraces = false) (IH : ∀ y av h o h2 K N, C y av h o h2 K N → xi_Con l D cs b base X y av h o h2 K N)
    (hrows : ∀ pc r, mt.1[pc]? = some (some r) → xi_okr qc mt.1 pc r) (hhand : match qc.2.2.2.2.1 with
      | none => mt.2.1 = [] ∧ ∀ x ∈ c.exceptionTable.toList, False
      | some hh => xi_okh qc.1.cls hh mt.2.1 ∧ c.exceptionTable.toList = tableOf hh)
    (hret : meth.sig.returnType = qc.2.2.2.1) (hrk : (qc.2.2.2.1 = none ∧ mt.2.2 = 0) ∨ (qc.2.2.2.1 = some .int ∧ mt.2.2 = 1) ∨ (qc.2.2.2.1 = some .boolean ∧ mt.2.2 = 2))
    (C0 : xi_Cx p s m args c qc.2.1 qc.1.cls D cs b X (xi_A as0 s.heap.size)) (hTb : xi_Tb D cs b base X s) (hAb : ∀ q, xi_A as0 s.heap.size q → base ≤ q) (hml : c.maxLocals = qc.2.2.1) (hlk : meth.locks = false) (hnm : meth.name = qc.1.name) :
    ∀ (f k n pc : Nat) (lv : xi_L) (st : List Value) (h : List xi_C) (z : List Nat) (H : Heap) (locs : List Loc) (ls : Array Slot), xi_go xi_ks xi_vt mt C K0 N0 (fun o1 h1 => o1 = o2 ∧ h1 = h2) f k n (pc, lv, st, h) → lv_has ls qc.2.2.1 (xi_el (as0 ++ z) lv) →
      xi_Wd D cs b base X (xi_A as0 s.heap.size) (as0 ++ z) h H → va_S (xi_A as0 s.heap.size) s.heap H locs → k ≤ K0 → n ≤ N0 →
      W p l e (xi_rm qc K0 N0) s m args below meth c H locs k n (vx_MQ below (xi_Qc D cs b base X as0 s.heap.size o2 h2) (xi_XC D cs b base X as0 s.heap.size o2 h2) args s K0 N0 (xi_A as0 s.heap.size)) (F0 m pc ls (st.map (xi_em (as0 ++ z)))) := by
  obtain ⟨hx, hb, hown, hts, hnw, hK, hX, hbl, hbA, hA⟩ := id C0
  intro f
  induction f with
  | zero => intro k n pc lv st h z H locs ls hg; exact hg.elim
  | succ f ih =>
    intro k n pc lv st h z H locs ls hg hl1 hJ hS hkK hnN
    obtain ⟨r, hr, hg⟩ := hg
    have hok := hrows pc r hr
    obtain ⟨ok1, ok2, ok3, ok4⟩ := hok
    obtain ⟨len, hd, hlen⟩ := xi_dec_ok ok1
    have hls : ls.size = c.maxLocals := hl1.1.trans hml.symm
    obtain ⟨i, a1, b1, v1⟩ := r
    dsimp only at ok1 ok2 ok3 ok4 hd hlen
    rcases hg with ⟨t, dk, dn, hp, hk1, hn1, hg⟩ | ⟨v, hv, hvo, hk1, hn1, hq⟩ | ⟨x, hx9, h0, hw, hk1, hn1, hq⟩ | ⟨y, av, rest, o, h', dk, dn, hi, hw, hc, hk1, hn1, hwf, hmx, hg⟩
    -- a pure step
    · unfold xi_pure at hp
      dsimp only at hp
      split at hp
      · rename_i w hw
        cases hp
        have hsw : len = xi_len i := hlen (fun d lo hi o e9 => by subst e9; cases hw)
        rw [hsw] at hd
        exact xi_lod_ok hx hb hd hown (fun k9 hk9 => by rcases hk9 with rfl | rfl <;> exact hts _ ok4) hl1 hw (ih k n _ lv (w :: st) h z H locs ls hg hl1 hJ hS hkK hnN)
      · split at hp
        · rename_i q9 hw
          obtain ⟨pc', st'⟩ := q9
          cases hp
          exact xi_brn_ok hx hb hd (fun hbr => hlen (fun d lo hi o e9 => by subst e9; cases hbr)) (fun hbr => by
            unfold xi_isbr at hbr
            split at hbr
            · exact ok4
            · exact ok4
            · exact ok4
            · cases hbr) hw (ih k n pc' lv st' h z H locs ls hg hl1 hJ hS hkK hnN)
        · split at hp
          · rename_i st' hw
            cases hp
            have hsw : len = xi_len i := hlen (fun d lo hi o e9 => by subst e9; cases hw)
            rw [hsw] at hd
            exact xi_rd_ok C0 hJ hS hd (fun k9 e9 => by subst e9; exact ok4) hw (ih k n _ lv st' h z H locs ls hg hl1 hJ hS hkK hnN)
          · split at hp
            · rename_i q9 hw
              obtain ⟨lv', st'⟩ := q9
              cases hp
              have hsw : len = xi_len i := hlen (fun d lo hi o e9 => by subst e9; cases hw)
              rw [hsw] at hd
              have hsix : xi_six i < qc.2.2.1 := by
                unfold xi_str at hw
                split at hw
                · exact ok4
                · exact ok4
                · exact ok4
                · exact ok4
                · exact ok4
                · cases hw
              exact xi_str_ok hx hb hd hsix hl1 hw (fun ls' hl' => ih k n _ lv' st' h z H locs ls' hg hl' hJ hS hkK hnN)
            · split at hp
              · rename_i q9 hw
                obtain ⟨st', h'⟩ := q9
                cases hp
                have hsw : len = xi_len i := hlen (fun d lo hi o e9 => by subst e9; cases hw)
                rw [hsw] at hd
                have hR9 : xi_okR i a1 (xi_rm qc K0 N0) := by
                  unfold xi_wr at hw
                  split at hw
                  · trivial
                  · trivial
                  · trivial
                  · trivial
                  · exact ok4
                  · exact ok4
                  · cases hw
                exact xi_wr_ok C0 hJ hS hnm hls hd (fun k9 e9 => by subst e9; exact ok4) ok3 hR9 hw (fun H1 locs1 hJ1 hS1 => ih k n _ lv st' h' z H1 locs1 ls hg hl1 hJ1 hS1 hkK hnN)
              · split at hp
                · rename_i st' hw
                  cases hp
                  have hsw : len = xi_len i := hlen (fun d lo hi o e9 => by
                    subst e9
                    have h9 : xi_stk (.tableswitch d lo hi o) st = none := by
                      unfold xi_stk
                      dsimp only
                      split <;> rfl
                    rw [h9] at hw
                    cases hw)
                  rw [hsw] at hd
                  exact xi_stk_ok hx hb hd hw (ih k n _ lv st' h z H locs ls hg hl1 hJ hS hkK hnN)
                · cases hwf : xi_wf lv st h with
                  | false => rw [hwf] at hp; cases hp
                  | true =>
                    rw [hwf] at hp
                    simp only [cond_true] at hp
                    split at hp
                    · rename_i q9 hw
                      obtain ⟨st', h', dk', dn'⟩ := q9
                      cases hp
                      have hsw : len = xi_len i := hlen (fun d lo hi o e9 => by subst e9; cases hw)
                      rw [hsw] at hd
                      have hkn : xi_okn qc.1.cls i a1 b1 := by
                        unfold xi_new at hw
                        split at hw
                        · exact ok4.2
                        · exact ok4
                        · exact ok4
                        · exact ok4
                        · exact ok4
                        · cases hw
                      by_cases hmi : ∃ k9 j9, i = .multianewarray k9 j9
                      · obtain ⟨k9, j9, rfl⟩ := hmi
                        obtain ⟨m1, m2, m3⟩ := hkn
                        subst m1
                        unfold xi_new at hw
                        dsimp only at hw
                        split at hw
                        · cases hw
                          refine xi_mna_ok C0 hTb.2.2.2.2.2.2.2.1 hAb hJ hS hd m2 m3 hwf hk1 hn1 hl1 (fun z9 H1 hJ1 hS1 hl9 => ?_)
                          have := ih (k + 5) (n + 20) (pc + 4) lv _ _ (z ++ z9) H1 locs ls hg (by rw [← List.append_assoc]; exact hl9) (by rw [← List.append_assoc]; exact hJ1) hS1 hk1 hn1
                          rw [← List.append_assoc] at this
                          exact this
                        · cases hw
                      · refine xi_new_ok C0 hTb.2.2.2.2.2.2.1 hAb hJ hS hd (fun k9 j9 e9 => hmi ⟨k9, j9, e9⟩) hkn hwf hw hk1 hn1 hl1 (fun z9 H1 hJ1 hS1 hl9 => ?_)
                        have := ih (k + dk) (n + dn) (pc + xi_len i) lv st' h' (z ++ z9) H1 locs ls hg (by rw [← List.append_assoc]; exact hl9) (by rw [← List.append_assoc]; exact hJ1) hS1 hk1 hn1
                        rw [← List.append_assoc] at this
                        exact this
                    · cases hp
    -- a return
    · obtain ⟨hq1, hq2⟩ := hq
      have hq2 : h = h2 := hq2
      subst hq2
      have hsw : len = xi_len i := hlen (fun d lo hi o e9 => by subst e9; cases hv)
      rw [hsw] at hd
      replace hv : xi_ret i st = some v := hv
      unfold xi_ret at hv
      split at hv
      · split at hv
        · cases hv
          rcases hrk with ⟨g1, g2⟩ | ⟨g1, g2⟩ | ⟨g1, g2⟩
          · exact W.widen hkK hnN (vx_ret (W.vret hx hb (hret.trans g1) (fun t ht hW => ⟨⟨none, z, hq1.symm, rfl, by rw [ht]; exact hJ⟩, hS.F ht⟩) hS.2.2 hd hlk))
          · rw [g2] at hvo; cases hvo
          · rw [g2] at hvo; cases hvo
        · cases hv
      · split at hv
        · rename_i x
          cases hv
          rcases hrk with ⟨g1, g2⟩ | ⟨g1, g2⟩ | ⟨g1, g2⟩
          · rw [g2] at hvo; cases hvo
          · exact W.widen hkK hnN (vx_ret (W.iret (v := x) hx hb (hret.trans g1) (fun t ht hW => ⟨⟨some (.int x), z, hq1.symm, rfl, by rw [ht]; exact hJ⟩, hS.F ht⟩) hS.2.2 hd hlk))
          · rw [g2] at hvo
            have hx01 : narrow .boolean (.int x) = .int x := by
              rcases Bool.or_eq_true_iff.mp (show (decide (x = 0) || decide (x = 1)) = true from hvo) with g | g
              · rw [of_decide_eq_true g]; rfl
              · rw [of_decide_eq_true g]; rfl
            exact W.widen hkK hnN (vx_ret (W.zret (v := x) hx hb (hret.trans g1) hx01 (fun t ht hW => ⟨⟨some (.int x), z, hq1.symm, rfl, by rw [ht]; exact hJ⟩, hS.F ht⟩) hS.2.2 hd hlk))
        · cases hv
      · cases hv
    -- a throw
    · have hw : (st.map fun v => v.category).sum ≤ 8 := hw
      obtain ⟨hq1, hq2⟩ := hq
      have hq2 : h = h2 := hq2
      subst hq2
      unfold xi_thr at hx9
      split at hx9
      · rename_i ik x9 v9 e9
        cases e9
        split at hx9
        · rename_i w3 ic w4 w7 hr3 hr4 hr7
          cases hx9
          have hsw : len = xi_len (.new ik) := hlen (fun d lo hi o e9 => by cases e9)
          rw [hsw] at hd
          have hdx : ∀ {pc9 : Nat} {i9 : Instr} {w9 : Nat × Nat × Int32}, mt.1[pc9]? = some (some (i9, w9)) → (∀ d lo hi o, i9 ≠ .tableswitch d lo hi o) → decode qc.2.1 pc9 = .ok (i9, xi_len i9) := fun {pc9 i9 w9} h9 hs9 => by
            have hok9 := hrows pc9 (i9, w9) h9
            obtain ⟨n9, g1, g2⟩ := xi_dec_ok hok9.1
            rw [← g2 hs9]
            exact g1
          have d3 := hdx hr3 (fun _ _ _ _ e9 => by cases e9)
          have d4 := hdx hr4 (fun _ _ _ _ e9 => by cases e9)
          have d7 := hdx hr7 (fun _ _ _ _ e9 => by cases e9)
          obtain ⟨⟨E, hE, o1, o2, o3, o4, o5⟩, of6, ol⟩ := ok4.1 rfl _ _ hr4
          · have hout : ∀ x9 ∈ c.exceptionTable.toList, covers x9 (pc + 7) = false := fun x9 hx9 => by
              cases hh9 : qc.2.2.2.2.1 with
              | none => rw [hh9] at hhand; exact (hhand.2 x9 hx9).elim
              | some hh =>
                rw [hh9] at hhand
                obtain ⟨g1, g2⟩ := hhand
                rw [h0] at g1
                cases hh with
                | nil => rw [g2] at hx9; cases hx9
                | cons a9 hh => cases g1
            exact vx_throw0 (names := xi_nm) hx hb hl hown o1 (by decide +kernel) (hts _ o2) (hts _ o3) (fun w9 hw9 => by
                rcases o4 w9 hw9 with g | g
                · exact hts _ g
                · exact va_Nw.use (by have g9 := xi_nw_all w9 g; unfold xi_nwk at g9; split at g9 <;> first | rfl | cases g9) (hnw w9 g))
              (fun w9 hw9 => List.all_eq_true.mp o5 w9 hw9) (hTb.2.2.2.2.2.2.2.2.1.narrow hAb) (hTb.2.2.2.2.2.2.2.2.2.narrow hAb) hS hls hd d3 d4 d7 hout of6 (by rw [xi_em_sum]; have := ol; show _ + (13 * 3 + 42) ≤ qc.2.2.2.2.2.2; omega) hk1 hn1 hlk
              (fun t hal hsz hsame => ⟨⟨_, z, hq1.symm, hE, by
                obtain ⟨g1, g2, g3, g4, g5, g6⟩ := hJ
                exact ⟨g1, g2, g3, g4, g5.kept (fun k9 q9 hk9 => hsame q9.1 (g5 k9 q9 hk9).lt), g6⟩⟩, Nat.le_trans hS.1 hsz, fun q9 g1 g2 => (hsame q9 (Nat.lt_of_lt_of_le g1 hS.1)).trans (hS.2.1 q9 g1 g2)⟩)
              hS.2.2 hk1 hn1
        · cases hx9
      · cases hx9
    -- a call
    · have hrun : vx_Run p l e (xi_rm qc K0 N0) s m args below meth c H locs k n dk dn (F0 m pc ls (st.map (xi_em (as0 ++ z)))) (rest.map (xi_em (as0 ++ z))) (xi_Qc D cs b base X (as0 ++ z) H.size o h' (av.map (xi_em (as0 ++ z))).toArray) (xi_XC D cs b base X (as0 ++ z) H.size o h') (xi_A (as0 ++ z) H.size) := by
        have hcon := IH _ _ _ _ _ _ _ hc
        unfold xi_inv at hi
        dsimp only at hi
        split at hi
        · rename_i k9
          have hd : decode qc.2.1 pc = .ok (.invokestatic k9, 3) := by rw [hlen (fun _ _ _ _ e9 => by cases e9)] at hd; exact hd
          cases hcnd : (decide (a1 < 900) && decide (b1 ≤ st.length)) with
          | false => rw [hcnd] at hi; cases hi
          | true =>
            rw [hcnd] at hi
            cases hi
            obtain ⟨c1, c2⟩ := Bool.and_eq_true_iff.mp hcnd
            have c1 := of_decide_eq_true c1
            have c2 := of_decide_eq_true c2
            have hst : st = ((st.take b1).reverse).reverse ++ st.drop b1 := by rw [List.reverse_reverse, List.take_append_drop]
            have hn9 : ((st.take b1).reverse).length = b1 := by rw [List.length_reverse, List.length_take]; omega
            obtain ⟨q, hq, u0, u0', u1, u2, u3, u4, u5, u6⟩ := ok2 c1
            by_cases hup : a1 = xi_up
            · obtain ⟨v1, v2, v3⟩ := u0 hup
              rcases hmx with g | ⟨v, rfl⟩
              · exact absurd g (by unfold xi_mayx; simp [hup])
              · exact xi_siteU C0 hTb hAb hJ hS hls hq v3 hd v1 v2 u1 u2 u3 u4 u5 u6 hn9 hcon hst hw hk1 hn1
            · exact xi_siteS C0 hTb hAb hJ hS hls hq hd (u0' hup) u1 u2 u3 u4 u5 u6 hn9 hcon hst hw hk1 hn1
        · rename_i k9
          have hd : decode qc.2.1 pc = .ok (.invokespecial k9, 3) := by rw [hlen (fun _ _ _ _ e9 => by cases e9)] at hd; exact hd
          split at hi
          · rename_i qo rest9 hdrop
            cases hcnd : decide (a1 < 900) with
            | false => rw [hcnd] at hi; cases hi
            | true =>
              rw [hcnd] at hi
              cases hi
              have c1 := of_decide_eq_true hcnd
              have hst : st = ((st.take (b1 - 1)).reverse).reverse ++ .ref (qo + 1) :: rest := by rw [List.reverse_reverse, ← hdrop, List.take_append_drop]
              have hn9 : ((st.take (b1 - 1)).reverse).length = b1 - 1 := by
                have h8 := congrArg List.length hdrop
                rw [List.length_drop, List.length_cons] at h8
                rw [List.length_reverse, List.length_take]
                omega
              obtain ⟨q, hq, u0, u1, u2, u3, u4, u5, u6, u7, u8, u9⟩ := ok2 c1
              rcases hmx with g | ⟨v, rfl⟩
              · cases g
              · exact xi_siteI C0 hTb hAb hJ hS hls hq u0 u1 u2 hd u3 u4 u5 u6 u7 u8 u9 hn9 hcon hst hw hk1 hn1
          · cases hi
        · rename_i k9
          have hd : decode qc.2.1 pc = .ok (.invokevirtual k9, 3) := by rw [hlen (fun _ _ _ _ e9 => by cases e9)] at hd; exact hd
          split at hi
          · rename_i qo rest9 hdrop
            split at hi
            · rename_i ci fs hqo
              split at hi
              · rename_i y9 hvt
                cases hi
                have hst : st = ((st.take (b1 - 1)).reverse).reverse ++ .ref (qo + 1) :: rest := by rw [List.reverse_reverse, ← hdrop, List.take_append_drop]
                have hn9 : ((st.take (b1 - 1)).reverse).length = b1 - 1 := by
                  have h8 := congrArg List.length hdrop
                  rw [List.length_drop, List.length_cons] at h8
                  rw [List.length_reverse, List.length_take]
                  omega
                by_cases h9 : a1 = 900
                · subst h9
                  obtain ⟨rr, q, hr9, hq, u0, u1, u2, u3, u4, u5, u6, u7, u8, u9⟩ := ok2.1 rfl ci _ hvt
                  rcases hmx with g | ⟨v, rfl⟩
                  · cases g
                  · exact xi_siteA C0 hTb hAb hJ hS hls hq u0 (x := xi_loc) rfl hd u1 u2 u3 u4 hr9 u5 u6 u7 hqo u8 u9 hn9 hcon hst hw hk1 hn1
                · obtain ⟨e1, e2⟩ := xi_vtn h9 hvt
                  have e1 : y = a1 := e1
                  subst e1
                  obtain ⟨rr, q, hr9, hq, v0, u0, u1, u2, u3, u4, u5, u6, u7, u8⟩ := ok2.2 h9
                  rw [e2] at hr9
                  exact xi_siteV C0 hTb hAb hJ hS hls hq u0 hd u1 u2 u3 u4 u5 hr9 v0 hqo u6 u7 u8 hn9 hcon hst hw hk1 hn1
              · cases hi
            · cases hi
          · cases hi
        · cases hi
      refine xi_ofRun hrun hJ hS hA (fun v z' H1 locs1 ho hJ1 hS1 => ?_) (fun x z' E ce q9 H1 locs1 ho hE hJ1 hS1 hce hcv hcl => ?_)
      · subst ho
        obtain ⟨st1, st2⟩ := xi_stab hJ.1 hJ1.1 hwf
        rw [List.append_assoc] at hJ1 st1 st2
        have := ih (k + dk) (n + dn) (pc + 3) lv (v.toList ++ rest) h' (z ++ z') H1 locs1 ls hg (by rw [st2]; exact hl1) hJ1 hS1 hk1 hn1
        rw [List.map_append, st1] at this
        rw [List.append_assoc]
        cases v with
        | none => exact this
        | some w => exact this
      · subst ho
        obtain ⟨st1, st2⟩ := xi_stab hJ.1 hJ1.1 hwf
        rw [List.append_assoc] at hJ1 st1 st2
        dsimp only at hg
        split at hg
        · rename_i hn9
          obtain ⟨hq1, hq2⟩ := hg
          subst hq2
          refine vx_outP hown hlk (fun u hu => ?_) hce hcv hcl (fun t ht hal => ⟨⟨x, z ++ z', hq1.symm, hE, by rw [ht]; exact hJ1⟩, hS1.F ht⟩) hS1.2.2 hk1 hn1
          cases hh9 : qc.2.2.2.2.1 with
          | none => rw [hh9] at hhand; exact (hhand.2 u hu).elim
          | some hh =>
            rw [hh9] at hhand
            rw [hhand.2] at hu
            rcases xi_hdl_none hhand.1 hn9 u hu with g | ⟨g1, x', E', g2, g3, g4⟩
            · exact Or.inl g
            · exact Or.inr ⟨g1, E', hts _ g4, hTb.2.2.2.2.2.1 _ (xi_nc_of hE g3 g2)⟩
        · rename_i w hw9
          obtain ⟨pc', lv', hcat, hg⟩ := hg
          cases hh9 : qc.2.2.2.2.1 with
          | none => rw [hh9] at hhand; rw [hhand.1] at hw9; cases hw9
          | some hh =>
            rw [hh9] at hhand
            obtain ⟨pre, z9, suf, E9, g1, g2, g3, g4, g5, g6, g7, g8⟩ := xi_hdl_some hhand.1 hw9
            cases hE.symm.trans g5
            refine vx_catch hown pre z9 suf (hhand.2.trans g1) (fun u hu => ?_) g3 g4 (hts _ g6) (va_Nw.use rfl (hnw _ g7)) hce hcv hcl ?_
            · rcases g8 u hu with g | ⟨f1, x', E', f2, f3, f4⟩
              · exact Or.inl g
              · exact Or.inr ⟨f1, E', hts _ f4, hTb.2.2.2.2.2.1 _ (xi_nc_of hE f3 f2)⟩
            · rw [g2]
              have hdx : ∀ {pc9 : Nat} {i9 : Instr} {w9 : Nat × Nat × Int32}, mt.1[pc9]? = some (some (i9, w9)) → (∀ d lo hi o, i9 ≠ .tableswitch d lo hi o) → decode qc.2.1 pc9 = .ok (i9, xi_len i9) := fun {pc9 i9 w9} h9 hs9 => by
                have hok9 := hrows pc9 (i9, w9) h9
                obtain ⟨n9, g1, g2⟩ := xi_dec_ok hok9.1
                rw [← g2 hs9]
                exact g1
              unfold xi_cat at hcat
              split at hcat
              · rename_i k9 w9 hr9
                cases hcat
                have hok9 := hrows w (.astore_n k9, w9) hr9
                have hn9 : k9.val < qc.2.2.1 := hok9.2.2.2
                refine lv_astore_n hx hb (hdx hr9 (fun _ _ _ _ e9 => by cases e9)) rfl hl1 hn9 rfl (fun ls' hl' => ?_)
                have hl'' : lv_has ls' qc.2.2.1 (xi_el (as0 ++ (z ++ z')) (lv.filter (xi_keep k9.val))) := by
                  rw [xi_el_filter, st2]
                  exact ⟨hl'.1, hl'.2.1, fun q hq => hl'.2.2 q (List.mem_cons_of_mem _ hq)⟩
                exact ih (k + dk) (n + dn) (w + 1) _ [] h' (z ++ z') H1 locs1 ls' hg hl'' hJ1 hS1 hk1 hn1
              · rename_i k9 w9 hr9
                cases hcat
                have hok9 := hrows w (.astore k9, w9) hr9
                have hn9 : k9 < qc.2.2.1 := hok9.2.2.2
                refine lv_astore hx hb (hdx hr9 (fun _ _ _ _ e9 => by cases e9)) hl1 hn9 rfl (fun ls' hl' => ?_)
                have hl'' : lv_has ls' qc.2.2.1 (xi_el (as0 ++ (z ++ z')) (lv.filter (xi_keep k9))) := by
                  rw [xi_el_filter, st2]
                  exact ⟨hl'.1, hl'.2.1, fun q hq => hl'.2.2 q (List.mem_cons_of_mem _ hq)⟩
                exact ih (k + dk) (n + dn) (w + 2) _ [] h' (z ++ z') H1 locs1 ls' hg hl'' hJ1 hS1 hk1 hn1
              · cases hcat
end XM
