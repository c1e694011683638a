/-! Call sites, kind by kind. DRAFT until it has compiled once. -/
def xi_fr (qc q : xm_T) : Bool := decide (q.2.2.2.2.2.1 + 1 ≤ qc.2.2.2.2.2.1) && decide (8 + (q.2.2.1 + 11) + q.2.2.2.2.2.2 ≤ qc.2.2.2.2.2.2)
def xi_pl (y : MethodName) : Bool := decide (y.cls ≠ "java/lang/invoke/MethodHandle") && decide (y.cls ≠ "java/lang/invoke/VarHandle")
def xi_par (d : String) (n : Nat) : Bool := decide ((parseMethodDescriptor d).map (fun d => d.parameters.length) = some n)
theorem xi_good3 {ws0 ws : List Cond} (h0 : ∀ w ∈ ws0, w ∈ xi_gw) (h1 : GoodIn xi_gw ws) : GoodIn xi_gw (ws0 ++ ws) := fun w hw => by
  rcases List.mem_append.mp hw with z | z
  · exact xi_good1 (h0 w z)
  · exact h1 w z
theorem xi_fr_ok {qc q : xm_T} {K N K0 N0 : Nat} (h : xi_fr qc q = true) : (xi_rm q K N).frames + 1 ≤ (xi_rm qc K0 N0).frames ∧ 8 + (q.2.2.1 + 11) + (xi_rm q K N).locals ≤ (xi_rm qc K0 N0).locals := by
  obtain ⟨h1, h2⟩ := Bool.and_eq_true_iff.mp h
  exact ⟨of_decide_eq_true h1, of_decide_eq_true h2⟩
theorem xi_pl_ok {y : MethodName} (h : xi_pl y = true) : y.cls ≠ "java/lang/invoke/MethodHandle" ∧ y.cls ≠ "java/lang/invoke/VarHandle" := by
  obtain ⟨h1, h2⟩ := Bool.and_eq_true_iff.mp h
  exact ⟨of_decide_eq_true h1, of_decide_eq_true h2⟩
section XD
variable {p : Program} {l : Launch} {e : Env} {s : State} {m : MethodId} {args : Array Value} {below : List Frame} {meth : Method} {c : Code} {H : Heap} {locs : List Loc} {cells slots : Nat}
variable {cc : ByteArray} {pc : Nat} {ls : Array Slot} {as : List Nat} {own : String} {D : va_G} {cs : Nat → ClassId} {b base : Nat} {X : List Int32} {A : Nat → Prop} {h h2 : List xi_C} {o : xi_O} {dk dn K0 N0 k n y : Nat} {st rest av : List Value} {qc q : xm_T}
theorem xi_sum8 {rest : List Value} (hsum : (rest.map fun v => v.category).sum ≤ 8) : 2 * (F0 m pc ls st).monitorRoom + ((rest.map (xi_em as)).map fun v => v.category).sum ≤ 8 := by
  have e9 : (F0 m pc ls st).monitorRoom = 0 := rfl
  rw [e9, xi_em_sum]
  omega
set_option maxHeartbeats 4000000 in
theorem xi_siteS (C0 : xi_Cx p s m args c cc own D cs b X A) (hTb : xi_Tb D cs b base X s) (hAb : ∀ q, A q → base ≤ q) (hJ : xi_Wd D cs b base X A as h H) (hS : va_S A s.heap H locs) (hls : ls.size = c.maxLocals)
    (hq : xm_tab[y]? = some q) (hd : decode cc pc = .ok (.invokestatic k, 3)) (w1 : (.methodLink own k q.1 : Cond) ∈ xi_gw) (w2 : (.static q.1 : Cond) ∈ xi_gw) (w3 : (.initialized q.1.cls : Cond) ∈ xi_gw) (w4 : (xi_cw q : Cond) ∈ xi_gw)
    (hfr : xi_fr qc q = true) (hpl : xi_pl q.1 = true) (hpar : xi_par q.1.desc n = true) (hn : av.length = n) (hcon : xi_Con l D cs b base X y av h o h2 dk dn) (hst : st = av.reverse ++ rest) (hsum : (rest.map fun v => v.category).sum ≤ 8) (hcell : cells + dk ≤ K0) (hslot : slots + dn ≤ N0) :
    vx_Run p l e (xi_rm qc K0 N0) s m args below meth c H locs cells slots dk dn (F0 m pc ls (st.map (xi_em as))) (rest.map (xi_em as)) (xi_Qc D cs b base X as H.size o h2 (av.map (xi_em as)).toArray) (xi_XC D cs b base X as H.size o h2) (xi_A as H.size) := by
  obtain ⟨hx, hb, hown, hts, hnw, hK, hX, hbl, hbA, hA⟩ := C0
  have hpl := xi_pl_ok hpl
  have hG : GoodIn xi_gw (va_wsS own k q.1 (xi_wl q)) := xi_good3 (ws0 := [.methodLink own k q.1, .static q.1, .initialized q.1.cls]) (fun w hw => by
    simp only [List.mem_cons, List.not_mem_nil, or_false] at hw
    rcases hw with rfl | rfl | rfl <;> assumption) (xi_goodIn (xi_has_in w4))
  have hst' : (F0 m pc ls (st.map (xi_em as))).stack = (av.map (xi_em as)).reverse ++ rest.map (xi_em as) := by
    show st.map (xi_em as) = _
    rw [hst, List.map_append, List.map_reverse]
  cases hh : q.2.2.2.2.1 with
  | none =>
    have hcw : xi_wl q = Cond.code q.1 q.2.1 q.2.2.1 q.2.2.2.1 :: xi_gw := by unfold xi_wl xi_cw; rw [hh]
    exact vx_runS (Ts := xi_gw) (nL := ls.size) ⟨hx, hb, hls.symm, hown, hts⟩ (hcon q hq as H.size) (va_cwS n hts hG hcw rfl rfl ⟨hpl.1, hpl.2, of_decide_eq_true hpar⟩ (xi_fr_ok hfr)) ⟨xi_blind _ as h H.size, xi_pre hTb hJ hS hAb _⟩ rfl (by rw [List.length_map]; exact hn) rfl hst' (xi_sum8 hsum) hd ⟨hcell, hslot⟩
  | some hh' =>
    have hcw : xi_wl q = Cond.codeWith q.1 q.2.1 q.2.2.1 q.2.2.2.1 hh' :: xi_gw := by unfold xi_wl xi_cw; rw [hh]
    exact vx_runSX (Ts := xi_gw) (nL := ls.size) ⟨hx, hb, hls.symm, hown, hts⟩ (hcon q hq as H.size) (vx_cwSW n hts hG hcw rfl rfl ⟨hpl.1, hpl.2, of_decide_eq_true hpar⟩ (xi_fr_ok hfr)) ⟨xi_blind _ as h H.size, xi_pre hTb hJ hS hAb _⟩ rfl (by rw [List.length_map]; exact hn) rfl hst' (xi_sum8 hsum) hd ⟨hcell, hslot⟩
set_option maxHeartbeats 4000000 in
theorem xi_siteV (C0 : xi_Cx p s m args c cc own D cs b X A) (hTb : xi_Tb D cs b base X s) (hAb : ∀ q, A q → base ≤ q) (hJ : xi_Wd D cs b base X A as h H) (hS : va_S A s.heap H locs) (hls : ls.size = c.maxLocals)
    (hq : xm_tab[y]? = some q) (hh : q.2.2.2.2.1 = none) (hd : decode cc pc = .ok (.invokevirtual k, 3)) (w1 : (.methodLink own k q.1 : Cond) ∈ xi_gw) (w2 : (.instanceMethod q.1 : Cond) ∈ xi_gw) (w3 : (.initialized q.1.cls : Cond) ∈ xi_gw) (w4 : (xi_cw q : Cond) ∈ xi_gw) (w5 : (.selects q.1.cls q.1 q.1 : Cond) ∈ xi_gw)
    {ci qo : Nat} {fs : List Value} {r : vw_C} (hr : xi_cl[ci]? = some r) (hrc : r.1 = q.1.cls) (hqo : h[qo + 1]? = some (.inr (.inr (.inr (ci, fs)))))
    (hfr : xi_fr qc q = true) (hpl : xi_pl q.1 = true) (hpar : xi_par q.1.desc n = true) (hn : av.length = n) (hcon : xi_Con l D cs b base X y (.ref (qo + 1) :: av) h o h2 dk dn) (hst : st = av.reverse ++ .ref (qo + 1) :: rest) (hsum : (rest.map fun v => v.category).sum ≤ 8) (hcell : cells + dk ≤ K0) (hslot : slots + dn ≤ N0) :
    vx_Run p l e (xi_rm qc K0 N0) s m args below meth c H locs cells slots dk dn (F0 m pc ls (st.map (xi_em as))) (rest.map (xi_em as)) (xi_Qc D cs b base X as H.size o h2 ((Value.ref (qo + 1) :: av).map (xi_em as)).toArray) (xi_XC D cs b base X as H.size o h2) (xi_A as H.size) := by
  obtain ⟨hx, hb, hown, hts, hnw, hK, hX, hbl, hbA, hA⟩ := C0
  have hpl := xi_pl_ok hpl
  have hG : GoodIn xi_gw (wsV own k q.1.cls q.1 (xi_wl q)) := xi_good3 (ws0 := [.methodLink own k q.1, .instanceMethod q.1, .selects q.1.cls q.1 q.1, .initialized q.1.cls]) (fun w hw => by
    simp only [List.mem_cons, List.not_mem_nil, or_false] at hw
    rcases hw with rfl | rfl | rfl | rfl <;> assumption) (xi_goodIn (xi_has_in w4))
  have hst' : (F0 m pc ls (st.map (xi_em as))).stack = (av.map (xi_em as)).reverse ++ .ref (as.getD (qo + 1) 0) :: rest.map (xi_em as) := by
    show st.map (xi_em as) = _
    rw [hst, List.map_append, List.map_reverse]
    rfl
  have hcw : xi_wl q = Cond.code q.1 q.2.1 q.2.2.1 q.2.2.2.1 :: xi_gw := by unfold xi_wl xi_cw; rw [hh]
  obtain ⟨ad, had⟩ := xi_addr hJ.1 hqo
  have hrec := va_recv hK hJ.2.2.2.2.1 hr (xi_ws_at (cs := cs) had hqo)
  rw [← xi_getD had, hrc] at hrec
  exact vx_runV (Ts := xi_gw) (nL := ls.size) (C := q.1.cls) (b := as.getD (qo + 1) 0) (As := av.map (xi_em as)) ⟨hx, hb, hls.symm, hown, hts⟩ (hcon q hq as H.size) (cwV n hts hG hcw rfl rfl ⟨rfl, hpl.1, hpl.2, of_decide_eq_true hpar⟩ (xi_fr_ok hfr)) ⟨xi_blind _ as h H.size, hrec, xi_pre hTb hJ hS hAb _⟩ rfl (by rw [List.length_map]; exact hn) rfl hst' (xi_sum8 hsum) hd ⟨hcell, hslot⟩
set_option maxHeartbeats 4000000 in
-- a constructor, by its link or by the nest's
theorem xi_siteI (C0 : xi_Cx p s m args c cc own D cs b X A) (hTb : xi_Tb D cs b base X s) (hAb : ∀ q, A q → base ≤ q) (hJ : xi_Wd D cs b base X A as h H) (hS : va_S A s.heap H locs) (hls : ls.size = c.maxLocals)
    (hq : xm_tab[y]? = some q) (hh : q.2.2.2.2.1 = none) (hret : q.2.2.2.1 = none) (hnm : q.1.name = "<init>") (hd : decode cc pc = .ok (.invokespecial k, 3)) (w1 : (.methodLink own k q.1 : Cond) ∈ xi_gw ∨ Cond.methodLinkNest own k q.1 "NoisyCodes" ∈ xi_nw) (w2 : (.instanceMethod q.1 : Cond) ∈ xi_gw) (w3 : (.initialized q.1.cls : Cond) ∈ xi_gw) (w4 : (xi_cw q : Cond) ∈ xi_gw)
    {qo : Nat} {v : Option Value} (hfr : xi_fr qc q = true) (hpl : xi_pl q.1 = true) (hpar : xi_par q.1.desc n = true) (hn : av.length = n) (hcon : xi_Con l D cs b base X y (.ref (qo + 1) :: av) h (.inl v) h2 dk dn) (hst : st = av.reverse ++ .ref (qo + 1) :: rest) (hsum : (rest.map fun v => v.category).sum ≤ 8) (hcell : cells + dk ≤ K0) (hslot : slots + dn ≤ N0) :
    vx_Run p l e (xi_rm qc K0 N0) s m args below meth c H locs cells slots dk dn (F0 m pc ls (st.map (xi_em as))) (rest.map (xi_em as)) (xi_Qc D cs b base X as H.size (.inl v) h2 ((Value.ref (qo + 1) :: av).map (xi_em as)).toArray) (xi_XC D cs b base X as H.size (.inl v) h2) (xi_A as H.size) := by
  obtain ⟨hx, hb, hown, hts, hnw, hK, hX, hbl, hbA, hA⟩ := C0
  have hpl := xi_pl_ok hpl
  have hst' : (F0 m pc ls (st.map (xi_em as))).stack = (av.map (xi_em as)).reverse ++ .ref (as.getD (qo + 1) 0) :: rest.map (xi_em as) := by
    show st.map (xi_em as) = _
    rw [hst, List.map_append, List.map_reverse]
    rfl
  have hcw : xi_wl q = Cond.code q.1 q.2.1 q.2.2.1 none :: xi_gw := by unfold xi_wl xi_cw; rw [hh, hret]
  have hG := xi_goodIn (xi_has_in w4)
  have hM := xi_met (hcon q hq as H.size)
  rcases w1 with w1 | w1
  · exact xi_run_of (va_runI (Ts := xi_gw) (nL := ls.size) (b := as.getD (qo + 1) 0) (As := av.map (xi_em as)) ⟨hx, hb, hls.symm, hown, hts⟩ hM (cwI n hts hG hcw rfl rfl (hts _ (xi_has_in w3)) (hts _ (xi_has_in w1)) (hts _ (xi_has_in w2)) hnm ⟨hpl.1, hpl.2, of_decide_eq_true hpar⟩ (xi_fr_ok hfr)) ⟨xi_blind _ as h H.size, xi_pre hTb hJ hS hAb _⟩ rfl (by rw [List.length_map]; exact hn) rfl hst' (xi_sum8 hsum) hd ⟨hcell, hslot⟩)
  · exact xi_run_of (va_runIN (Ts := xi_gw) (nL := ls.size) (b := as.getD (qo + 1) 0) (As := av.map (xi_em as)) ⟨hx, hb, hls.symm, hown, hts⟩ hM ⟨va_cnB n hts hG hcw rfl rfl (hnw _ w1) (hts _ (xi_has_in w3)) ⟨hpl.1, hpl.2, of_decide_eq_true hpar⟩ (xi_fr_ok hfr), hnm, hts _ (xi_has_in w2)⟩ ⟨xi_blind _ as h H.size, xi_pre hTb hJ hS hAb _⟩ rfl (by rw [List.length_map]; exact hn) rfl hst' (xi_sum8 hsum) hd ⟨hcell, hslot⟩)
set_option maxHeartbeats 4000000 in
-- the abstract Way.locate by the receiver's class
theorem xi_siteA (C0 : xi_Cx p s m args c cc own D cs b X A) (hTb : xi_Tb D cs b base X s) (hAb : ∀ q, A q → base ≤ q) (hJ : xi_Wd D cs b base X A as h H) (hS : va_S A s.heap H locs) (hls : ls.size = c.maxLocals)
    (hq : xm_tab[y]? = some q) (hh : q.2.2.2.2.1 = none) {x : MethodName} (hxn : x.cls = "NoisyCodes$Way") (hd : decode cc pc = .ok (.invokevirtual k, 3)) (w1 : (.methodLink own k x : Cond) ∈ xi_gw) (w2 : (.instanceMethod q.1 : Cond) ∈ xi_gw) (w3 : (.initialized q.1.cls : Cond) ∈ xi_gw) (w4 : (xi_cw q : Cond) ∈ xi_gw)
    {ci qo : Nat} {fs : List Value} {r : vw_C} (hr : xi_cl[ci]? = some r) (w5 : (.selects r.1 x q.1 : Cond) ∈ xi_gw) (w6 : (.sameMethod x.cls "NoisyCodes$Way" x.name x.desc : Cond) ∈ xi_gw) (w7 : Cond.declares ⟨"NoisyCodes$Way", x.name, x.desc⟩ ∈ xi_nw) (hqo : h[qo + 1]? = some (.inr (.inr (.inr (ci, fs)))))
    {v : Option Value} (hfr : xi_fr qc q = true) (hpar : xi_par x.desc n = true) (hn : av.length = n) (hcon : xi_Con l D cs b base X y (.ref (qo + 1) :: av) h (.inl v) h2 dk dn) (hst : st = av.reverse ++ .ref (qo + 1) :: rest) (hsum : (rest.map fun v => v.category).sum ≤ 8) (hcell : cells + dk ≤ K0) (hslot : slots + dn ≤ N0) :
    vx_Run p l e (xi_rm qc K0 N0) s m args below meth c H locs cells slots dk dn (F0 m pc ls (st.map (xi_em as))) (rest.map (xi_em as)) (xi_Qc D cs b base X as H.size (.inl v) h2 ((Value.ref (qo + 1) :: av).map (xi_em as)).toArray) (xi_XC D cs b base X as H.size (.inl v) h2) (xi_A as H.size) := by
  obtain ⟨hx, hb, hown, hts, hnw, hK, hX, hbl, hbA, hA⟩ := C0
  have hG : GoodIn xi_gw (va_wsU own k r.1 "NoisyCodes$Way" x q.1 (xi_wl q)) := xi_good3 (ws0 := [.methodLink own k x, .sameMethod x.cls "NoisyCodes$Way" x.name x.desc, .selects r.1 x q.1, .instanceMethod q.1, .initialized q.1.cls]) (fun w hw => by
    simp only [List.mem_cons, List.not_mem_nil, or_false] at hw
    rcases hw with rfl | rfl | rfl | rfl | rfl <;> assumption) (xi_goodIn (xi_has_in w4))
  have hst' : (F0 m pc ls (st.map (xi_em as))).stack = (av.map (xi_em as)).reverse ++ .ref (as.getD (qo + 1) 0) :: rest.map (xi_em as) := by
    show st.map (xi_em as) = _
    rw [hst, List.map_append, List.map_reverse]
    rfl
  have hcw : xi_wl q = Cond.code q.1 q.2.1 q.2.2.1 q.2.2.2.1 :: xi_gw := by unfold xi_wl xi_cw; rw [hh]
  obtain ⟨ad, had⟩ := xi_addr hJ.1 hqo
  have hrec := va_recv hK hJ.2.2.2.2.1 hr (xi_ws_at (cs := cs) had hqo)
  rw [← xi_getD had] at hrec
  exact xi_run_of (va_runU (Ts := xi_gw) (nL := ls.size) (C := r.1) (b := as.getD (qo + 1) 0) (As := av.map (xi_em as)) ⟨hx, hb, hls.symm, hown, hts⟩ (xi_met (hcon q hq as H.size)) (va_cwA n hts hG hcw rfl rfl (hnw _ w7) ⟨by decide +kernel, by decide +kernel, of_decide_eq_true hpar⟩ (xi_fr_ok hfr)) ⟨xi_blind _ as h H.size, hrec, xi_pre hTb hJ hS hAb _⟩ rfl (by rw [List.length_map]; exact hn) rfl hst' (xi_sum8 hsum) hd ⟨hcell, hslot⟩)
end XD
