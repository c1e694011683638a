/-! Contracts of the little machine's methods, and calls. Behind 01 (the kit's laws of exceptions). DRAFT until it has compiled once. -/
def xi_nc : List (String × String) := xi_ex.flatMap (fun a => (xi_ex.filter (fun b => decide (b ≠ a))).map (fun b => (a, b)))
def xi_AOA (U : State) : Prop := (Cond.arrayOver (.array .int)).before #[] U = true
theorem xi_AOA.moved {u U : State} (hvm : u.vm.Alike U.vm) (h : xi_AOA u) : xi_AOA U := over_moved (a := #[]) (a' := #[]) hvm h
def xi_Tb (D : va_G) (cs : Nat → ClassId) (b base : Nat) (X : List Int32) (U : State) : Prop :=
  va_K D xi_cl (xi_ty cs) U ∧ va_X b X.length (fun j => X.getD j 0) U U.heap ∧ b < base ∧ base ≤ U.heap.size ∧ (∀ w ∈ xi_nw, va_Nw w U) ∧ (∀ q ∈ xi_nc, va_Nc q.1 q.2 U) ∧ va_AO "NoisyCodes$Way" U ∧ xi_AOA U ∧
  vx_Zq Bundle.tN "UNASSIGNED_STACK" Bundle.steD (fun q => base ≤ q) U U.heap ∧ vx_Zq Bundle.tN "SUPPRESSED_SENTINEL" Bundle.listD (fun q => base ≤ q) U U.heap
def xi_In (D : va_G) (cs : Nat → ClassId) (b base : Nat) (X : List Int32) (as : List Nat) (h : List xi_C) (sz : Nat) (U : State) : Prop :=
  U.heap.size = sz ∧ xi_Wd D cs b base X (fun _ => True) as h U.heap ∧ xi_Tb D cs b base X U
def xi_A (as : List Nat) (sz : Nat) : Nat → Prop := fun q => q ∈ as.drop 1 ∨ sz ≤ q
def xi_Qc (D : va_G) (cs : Nat → ClassId) (b base : Nat) (X : List Int32) (as : List Nat) (sz : Nat) (o : xi_O) (h2 : List xi_C) : Array Value → State → Outcome → State → Prop := fun _ st oc t =>
  (∃ (v : Option Value) (z : List Nat), o = .inl v ∧ oc = .returned (v.map (xi_em (as ++ z))) ∧ xi_Wd D cs b base X (xi_A as sz) (as ++ z) h2 t.heap) ∧ va_F (xi_A as sz) st t
def xi_XC (D : va_G) (cs : Nat → ClassId) (b base : Nat) (X : List Int32) (as : List Nat) (sz : Nat) (o : xi_O) (h2 : List xi_C) : String → State → State → Prop := fun E st t =>
  (∃ (x : Nat) (z : List Nat), o = .inr x ∧ xi_ex[x]? = some E ∧ xi_Wd D cs b base X (xi_A as sz) (as ++ z) h2 t.heap) ∧ va_F (xi_A as sz) st t
def xi_rm (q : xm_T) (K N : Nat) : Room := { frames := q.2.2.2.2.2.1, cells := K, slots := N, locals := q.2.2.2.2.2.2 }
def xi_cw (q : xm_T) : Cond := match q.2.2.2.2.1 with
  | none => .code q.1 q.2.1 q.2.2.1 q.2.2.2.1
  | some hh => .codeWith q.1 q.2.1 q.2.2.1 q.2.2.2.1 hh
def xi_wl (q : xm_T) : List Cond := xi_cw q :: xi_gw
def xi_Con (l : Launch) (D : va_G) (cs : Nat → ClassId) (b base : Nat) (X : List Int32) (y : Nat) (av : List Value) (h : List xi_C) (o : xi_O) (h2 : List xi_C) (K N : Nat) : Prop :=
  ∀ q, xm_tab[y]? = some q → ∀ (as : List Nat) (sz : Nat), vx_Met l q.1 (xi_wl q) (xi_rm q K N) (va_Pc (av.map (xi_em as)) (xi_In D cs b base X as h sz)) (xi_Qc D cs b base X as sz o h2) (xi_XC D cs b base X as sz o h2) K N (xi_A as sz)
-- the words that do not keep stay, kind by kind
def xi_nwk (w : Cond) : Bool := match w with
  | .fieldLinkNest .. => true
  | .methodLinkNest .. => true
  | .declares _ => true
  | .castable .. => true
  | _ => false
theorem xi_nw_all : ∀ w ∈ xi_nw, xi_nwk w = true := by decide +kernel
theorem xi_nw_warm {s U : State} (hW : s.WarmedH U.vm) {w : Cond} (hw : w ∈ xi_nw) (h : va_Nw w s) : va_Nw w U := by
  have hk := xi_nw_all w hw
  unfold xi_nwk at hk
  split at hk
  · exact va_Nw.warmF hW h
  · exact va_Nw.warmM hW h
  · exact va_Nw.warmD hW h
  · exact va_Nw.warmC hW h
  · cases hk
theorem xi_Tb.go {D : va_G} {cs : Nat → ClassId} {b base : Nat} {X : List Int32} {u U : State} (h : xi_Tb D cs b base X u) (hW : u.WarmedH U.vm) (hsz : u.heap.size ≤ U.heap.size) (hk : ∀ q : Nat, q < base → U.heap[q]? = u.heap[q]?) : xi_Tb D cs b base X U := by
  obtain ⟨h1, h2, h3, h4, h5, h6, h7, h7b, h8, h9⟩ := h
  have ha := hW.alike
  exact ⟨h1.moved ha, (h2.kept (hk b h3)).moved ha, h3, Nat.le_trans h4 hsz, fun w hw => xi_nw_warm hW hw (h5 w hw), fun q hq => (h6 q hq).moved ha, h7.moved ha, h7b.moved ha,
    (h8.kept (fun a _ hn => hk a (Nat.lt_of_not_le hn))).moved ha, (h9.kept (fun a _ hn => hk a (Nat.lt_of_not_le hn))).moved ha⟩
theorem xi_blind {D : va_G} {cs : Nat → ClassId} {b base : Nat} {X : List Int32} (av : List Value) (as : List Nat) (h : List xi_C) (sz : Nat) : FrameBlind (va_Pc av (xi_In D cs b base X as h sz)) := fun a U g mk q => by
  obtain ⟨q0, q1, q2, q3⟩ := q
  exact ⟨q0, q1, q2, q3.go (U := U.calling g mk a) (State.WarmedH.refl U) (Nat.le_refl _) (fun _ _ => rfl)⟩
theorem xi_goodIn {q : xm_T} (h : xi_cw q ∈ xi_gw) : GoodIn xi_gw (xi_wl q) := fun w hw => by
  have h1 : w ∈ xi_gw := by
    rcases List.mem_cons.mp hw with e | e
    · rw [e]; exact h
    · exact e
  exact ⟨h1, good_of_word (List.mem_filter.mp h1).2⟩
theorem xi_good1 {w : Cond} (h : w ∈ xi_gw) : w ∈ xi_gw ∧ ((w.onTables && w.keeps) = true ∨ ∃ ty, w = .arrayClass ty) := ⟨xi_has_in h, good_of_word (List.mem_filter.mp (xi_has_in h)).2⟩
section XC
variable {p : Program} {l : Launch} {e : Env} {R : Room} {s : State} {m : MethodId} {args : Array Value} {below : List Frame} {meth : Method} {c : Code} {H : Heap} {locs : List Loc} {cells slots : Nat} {Q : State → Prop}
variable {cc : ByteArray} {pc : Nat} {ls : Array Slot} {as : List Nat} {nL : Nat} {own : String} {D : va_G} {cs : Nat → ClassId} {b base : Nat} {X : List Int32} {A : Nat → Prop} {h h2 : List xi_C} {o : xi_O} {dk dn : Nat} {st0 rest : List Value} {a : Array Value}
theorem xi_Wd.weaken {B : Nat → Prop} {as : List Nat} (hJ : xi_Wd D cs b base X A as h H) (hAB : ∀ q, A q → B q) : xi_Wd D cs b base X B as h H := by
  obtain ⟨h1, h2, h3, h4, h5, h6⟩ := hJ
  exact ⟨h1, h2, h3, h4, h5, h6.weaken (fun _ _ _ h => hAB _ h)⟩
-- the addresses of the world are A's
theorem xi_Wd.inA (hJ : xi_Wd D cs b base X A as h H) {q : Nat} (hq : q ∈ as.drop 1) : A q := by
  obtain ⟨h1, -, -, -, -, h6⟩ := hJ
  obtain ⟨j, hj⟩ := List.getElem?_of_mem hq
  rw [List.getElem?_drop, Nat.add_comm] at hj
  have hl := (List.getElem?_eq_some_iff.mp hj).1
  have hh : h[j + 1]? = some h[j + 1] := List.getElem?_eq_getElem (by omega)
  exact h6.2 j _ (xi_ws_at hj hh)
theorem xi_ofRun (hr : vx_Run p l e R s m args below meth c H locs cells slots dk dn (F0 m pc ls st0) rest (xi_Qc D cs b base X as H.size o h2 a) (xi_XC D cs b base X as H.size o h2) (xi_A as H.size))
    (hJ : xi_Wd D cs b base X A as h H) (hS : va_S A s.heap H locs) (hA : ∀ q, s.heap.size ≤ q → A q)
    (kr : ∀ (v : Option Value) (z : List Nat) (H1 : Heap) (locs1 : List Loc), o = .inl v → xi_Wd D cs b base X A (as ++ z) h2 H1 → va_S A s.heap H1 locs1 → W p l e R s m args below meth c H1 locs1 (cells + dk) (slots + dn) Q (F0 m (pc + 3) ls ((v.map (xi_em (as ++ z))).toList ++ rest)))
    (kx : ∀ (x : Nat) (z : List Nat) (E : String) (ce : Cell) (q9 : Addr) (H1 : Heap) (locs1 : List Loc), o = .inr x → xi_ex[x]? = some E → xi_Wd D cs b base X A (as ++ z) h2 H1 → va_S A s.heap H1 locs1 → H1[q9]? = some ce → ce.vm = .none → s.vm.findClass E = some ce.cls → vx_W p l e R s m args below meth c H1 locs1 (cells + dk) (slots + dn) Q (F0 m pc ls rest) q9) :
    W p l e R s m args below meth c H locs cells slots Q (F0 m pc ls st0) := by
  have hAA : ∀ q, xi_A as H.size q → A q := fun q hq => hq.elim (fun z => hJ.inA z) (fun z => hA q (Nat.le_trans hS.1 z))
  intro T hT Xs
  rcases hr T hT Xs with ⟨v, st₀, t, T', L, h0, X', hL, e1, e2, ⟨⟨v', z, ho, hv, hw⟩, hF⟩, st⟩ | ⟨q9, st₀, t, T', L, E, ce, h0, X', hL, e1, e2, ⟨⟨x, z, ho, hE, hw⟩, hF⟩, hce, hcv, hcl, st⟩
  · cases hv
    have hkp := vx_keep h0 e1 hS (fun q _ hq => hAA q hq) hAA hL hF
    obtain ⟨t2, a1, b1⟩ := kr v' z T'.heap (locs ++ L) ho (by rw [e1]; exact hw.weaken hAA) hkp.2.2 T' rfl X'
    exact ⟨t2, st t2 a1, b1⟩
  · have hkp := vx_keep h0 e1 hS (fun q _ hq => hAA q hq) hAA hL hF
    obtain ⟨t2, a1, b1⟩ := kx x z E ce q9 T'.heap (locs ++ L) ho hE (by rw [e1]; exact hw.weaken hAA) hkp.2.2 (by rw [e1]; exact hce) hcv hcl T' rfl X'
    exact ⟨t2, st.trans a1, b1⟩
-- a callee that does not throw is one of the kit's contracts
theorem xi_met {y : MethodName} {ws : List Cond} {rm : Room} {Pc : Array Value → State → Prop} {K N sz : Nat} {free : Addr → Prop} {v : Option Value} (hM : vx_Met l y ws rm Pc (xi_Qc D cs b base X as sz (.inl v) h2) (xi_XC D cs b base X as sz (.inl v) h2) K N free) : Met l y ws rm Pc (xi_Qc D cs b base X as sz (.inl v) h2) K N free := by
  refine MetFree.mono hM (fun _ _ h => h) (fun _ _ _ _ _ h => h) (fun a s o t _ hq => ?_)
  rcases hq with hq | ⟨q, -, E, ce, L, hx, -⟩
  · exact hq
  · obtain ⟨⟨x, z, ho, -⟩, -⟩ := hx
    cases ho
theorem xi_run_of {mc ms : Nat} {g : JFrame} {Qa : State → Outcome → State → Prop} {XC : String → State → State → Prop} {free : Addr → Prop} (hr : va_Run p l e R s m args below meth c H locs cells slots mc ms g rest Qa free) : vx_Run p l e R s m args below meth c H locs cells slots mc ms g rest Qa XC free := fun T hT Xs => Or.inl (hr T hT Xs)
-- what holds for the callee where it is called
theorem xi_pre (hTb : xi_Tb D cs b base X s) (hJ : xi_Wd D cs b base X A as h H) (hS : va_S A s.heap H locs) (hAb : ∀ q, A q → base ≤ q) (av : List Value) : ∀ U : State, U.heap = H → s.WarmedH U.vm → va_Pc av (xi_In D cs b base X as h H.size) av.toArray U := fun U hU hW =>
  ⟨rfl, by rw [hU], by rw [hU]; exact hJ.weaken (fun _ _ => trivial), hTb.go hW (by rw [hU]; exact hS.1) (fun q hq => by rw [hU]; exact hS.2.1 q (Nat.lt_of_lt_of_le hq hTb.2.2.2.1) (fun z => by have := hAb q z; omega))⟩
end XC
