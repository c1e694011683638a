/-! What a row of the tables must be, and how the kernel checks it. DRAFT until it has compiled once. -/
def xi_nm : List String := ["java/lang/RuntimeException", "java/lang/Exception"]
def xi_dec (cc : ByteArray) (pc : Nat) (i : Instr) : Bool := match decode cc pc with
  | .ok (j, n) => decide (j = i) && (n == xi_len i || (match i with
    | .tableswitch .. => true
    | _ => false))
  | .error _ => false
def xi_okx (own : String) (ik ic x : Nat) : Prop := ∃ E, xi_ex[x]? = some E ∧ Bundle.fit E = true ∧ Cond.classLink own ik E ∈ xi_gw ∧ Cond.initialized E ∈ xi_gw ∧ (∀ w ∈ vx_at0 own ic E xi_nm, w ∈ xi_gw ∨ w ∈ xi_nw) ∧ (Cond.classLink own ik E :: Cond.initialized E :: vx_at0 own ic E xi_nm).all vx_ot = true
-- Way.locate
def xi_loc : MethodName := ⟨"NoisyCodes$Way", "locate", "(LNoisyCodes$Field;[II[I)V"⟩
-- a call's row
def xi_okc (qc : xm_T) (r : xi_R) : Prop := match r.1 with
  | .invokestatic k => r.2.1 < 900 → ∃ q, xm_tab[r.2.1]? = some q ∧ (r.2.1 = xi_up → Cond.methodLink qc.1.cls k ⟨qc.1.cls, q.1.name, q.1.desc⟩ ∈ xi_gw ∧ Cond.sameMethod qc.1.cls q.1.cls q.1.name q.1.desc ∈ xi_gw ∧ q.2.2.2.2.1 = none) ∧ (r.2.1 ≠ xi_up → Cond.methodLink qc.1.cls k q.1 ∈ xi_gw) ∧ Cond.static q.1 ∈ xi_gw ∧ Cond.initialized q.1.cls ∈ xi_gw ∧ xi_cw q ∈ xi_gw ∧ xi_fr qc q = true ∧ xi_pl q.1 = true ∧ xi_par q.1.desc r.2.2.1 = true
  | .invokespecial k => r.2.1 < 900 → ∃ q, xm_tab[r.2.1]? = some q ∧ q.2.2.2.2.1 = none ∧ q.2.2.2.1 = none ∧ q.1.name = "<init>" ∧ (Cond.methodLink qc.1.cls k q.1 ∈ xi_gw ∨ Cond.methodLinkNest qc.1.cls k q.1 "NoisyCodes" ∈ xi_nw) ∧ Cond.instanceMethod q.1 ∈ xi_gw ∧ Cond.initialized q.1.cls ∈ xi_gw ∧ xi_cw q ∈ xi_gw ∧ xi_fr qc q = true ∧ xi_pl q.1 = true ∧ xi_par q.1.desc (r.2.2.1 - 1) = true
  | .invokevirtual k => (r.2.1 = 900 → ∀ ci y, xi_vt 900 ci = some y → ∃ rr q, xi_cl[ci]? = some rr ∧ xm_tab[y]? = some q ∧ q.2.2.2.2.1 = none ∧ Cond.methodLink qc.1.cls k xi_loc ∈ xi_gw ∧ Cond.instanceMethod q.1 ∈ xi_gw ∧ Cond.initialized q.1.cls ∈ xi_gw ∧ xi_cw q ∈ xi_gw ∧ Cond.selects rr.1 xi_loc q.1 ∈ xi_gw ∧ Cond.sameMethod xi_loc.cls "NoisyCodes$Way" xi_loc.name xi_loc.desc ∈ xi_gw ∧ Cond.declares ⟨"NoisyCodes$Way", xi_loc.name, xi_loc.desc⟩ ∈ xi_nw ∧ xi_fr qc q = true ∧ xi_par xi_loc.desc (r.2.2.1 - 1) = true)
      ∧ (r.2.1 ≠ 900 → ∃ rr q, xi_cl[xc_tab.getD r.2.1 99]? = some rr ∧ xm_tab[r.2.1]? = some q ∧ rr.1 = q.1.cls ∧ q.2.2.2.2.1 = none ∧ Cond.methodLink qc.1.cls k q.1 ∈ xi_gw ∧ Cond.instanceMethod q.1 ∈ xi_gw ∧ Cond.initialized q.1.cls ∈ xi_gw ∧ xi_cw q ∈ xi_gw ∧ Cond.selects q.1.cls q.1 q.1 ∈ xi_gw ∧ xi_fr qc q = true ∧ xi_pl q.1 = true ∧ xi_par q.1.desc (r.2.2.1 - 1) = true)
  | _ => True
-- a row
def xi_oko (qc : xm_T) (rows : List (Option xi_R)) (pc : Nat) (r : xi_R) : Prop := match r.1 with
  | .ldc k => Cond.constant qc.1.cls k r.2.2.2 ∈ xi_gw
  | .ldc_w k => Cond.constant qc.1.cls k r.2.2.2 ∈ xi_gw
  | .goto o => (pc : Int) + o = (r.2.1 : Int)
  | .ifCond _ o => (pc : Int) + o = (r.2.1 : Int)
  | .if_icmp _ o => (pc : Int) + o = (r.2.1 : Int)
  | .istore_n k => k.val < qc.2.2.1
  | .istore k => k < qc.2.2.1
  | .astore_n k => k.val < qc.2.2.1
  | .astore k => k < qc.2.2.1
  | .iinc k _ => k < qc.2.2.1
  | .getfield k => xi_okf qc.1.cls k r.2.1 r.2.2.1
  | .putfield k => xi_okp qc.1.cls qc.1.name k r.2.1 r.2.2.1
  | .new k => (r.2.2.1 = 1 → ∀ ic z, rows[pc + 4]? = some (some (.invokespecial ic, z)) → xi_okx qc.1.cls k ic r.2.1 ∧ 6 ≤ qc.2.2.2.2.2.1 ∧ 8 + (13 * 3 + 42) ≤ qc.2.2.2.2.2.2) ∧ xi_okn qc.1.cls r.1 r.2.1 r.2.2.1
  | .newarray _ => xi_okn qc.1.cls r.1 r.2.1 r.2.2.1
  | .anewarray _ => xi_okn qc.1.cls r.1 r.2.1 r.2.2.1
  | .multianewarray _ _ => xi_okn qc.1.cls r.1 r.2.1 r.2.2.1
  | .invokespecial _ => r.2.1 = 1000 → 1 ≤ qc.2.2.2.2.2.1 ∧ 20 ≤ qc.2.2.2.2.2.2
  | .invokestatic _ => r.2.1 = 1001 → 1 ≤ qc.2.2.2.2.2.1 ∧ 8 + (nativeFrameWords "java/lang/System" "arraycopy" 5 + 11) ≤ qc.2.2.2.2.2.2
  | _ => True
def xi_okr (qc : xm_T) (rows : List (Option xi_R)) (pc : Nat) (r : xi_R) : Prop := xi_dec qc.2.1 pc r.1 = true ∧ xi_okc qc r ∧ xi_okw qc.1.cls r.1 r.2.1 ∧ xi_oko qc rows pc r
-- the numbers of a row
def xi_num (qc : xm_T) (rows : List (Option xi_R)) (pc : Nat) (r : xi_R) : Bool := xi_dec qc.2.1 pc r.1 && (match r.1 with
  | .goto o => decide ((pc : Int) + o = (r.2.1 : Int))
  | .ifCond _ o => decide ((pc : Int) + o = (r.2.1 : Int))
  | .if_icmp _ o => decide ((pc : Int) + o = (r.2.1 : Int))
  | .istore_n k => decide (k.val < qc.2.2.1)
  | .istore k => decide (k < qc.2.2.1)
  | .astore_n k => decide (k.val < qc.2.2.1)
  | .astore k => decide (k < qc.2.2.1)
  | .iinc k _ => decide (k < qc.2.2.1)
  | .getfield _ => (match xi_cl[r.2.1]? with
    | some q => decide (r.2.2.1 < q.2.2)
    | none => false)
  | .putfield _ => (match xi_cl[r.2.1]? with
    | some q => decide (r.2.2.1 < q.2.2) && (!(q.2.1 r.2.2.1).2.2.2 || (decide ((q.2.1 r.2.2.1).1 = qc.1.cls) && decide (qc.1.name = "<init>")))
    | none => false)
  | .new k => bif r.2.2.1 == 1 then (match rows[pc + 4]?, xi_ex[r.2.1]? with
    | some (some (.invokespecial ic, _)), some E => (Cond.classLink qc.1.cls k E :: Cond.initialized E :: vx_at0 qc.1.cls ic E xi_nm).all vx_ot && decide (6 ≤ qc.2.2.2.2.2.1) && decide (8 + (13 * 3 + 42) ≤ qc.2.2.2.2.2.2)
    | _, _ => false) else decide (r.2.1 < xi_cl.length)
  | .anewarray _ => r.2.1 == 0
  | .multianewarray _ j => j == 2
  | .invokespecial _ => bif decide (900 ≤ r.2.1) then (!(r.2.1 == 1000) || (decide (1 ≤ qc.2.2.2.2.2.1) && decide (20 ≤ qc.2.2.2.2.2.2))) else (match xm_tab[r.2.1]? with
    | some q => q.2.2.2.2.1.isNone && q.2.2.2.1.isNone && decide (q.1.name = "<init>") && xi_fr qc q && (r.2.2.1 - 1 == xn_tab.getD r.2.1 0)
    | none => false)
  | .invokestatic _ => bif decide (900 ≤ r.2.1) then (!(r.2.1 == 1001) || (decide (1 ≤ qc.2.2.2.2.2.1) && decide (8 + (nativeFrameWords "java/lang/System" "arraycopy" 5 + 11) ≤ qc.2.2.2.2.2.2))) else (match xm_tab[r.2.1]? with
    | some q => (!(r.2.1 == xi_up) || q.2.2.2.2.1.isNone) && xi_fr qc q && (r.2.2.1 == xn_tab.getD r.2.1 0)
    | none => false)
  | .invokevirtual _ => bif r.2.1 == 900 then ([4, 5, 6].all (fun ci => match xi_vt 900 ci with
      | some y => (match xm_tab[y]? with
        | some q => q.2.2.2.2.1.isNone && xi_fr qc q
        | none => false)
      | none => false) && r.2.2.1 == 5) else (match xm_tab[r.2.1]? with
    | some q => q.2.2.2.2.1.isNone && xi_fr qc q && (r.2.2.1 - 1 == xn_tab.getD r.2.1 0) && decide (xc_tab.getD r.2.1 99 < xi_cl.length)
    | none => false)
  | _ => true)
-- the words of a row: those that keep, and the others
def xi_need (qc : xm_T) (rows : List (Option xi_R)) (pc : Nat) (r : xi_R) : List Cond := match r.1 with
  | .ldc k => [.constant qc.1.cls k r.2.2.2]
  | .ldc_w k => [.constant qc.1.cls k r.2.2.2]
  | .getfield k => bif decide (r.2.2.2 = 0) then (match xi_cl[r.2.1]? with
    | some q => [.fieldLink qc.1.cls k (q.2.1 r.2.2.1).1 (q.2.1 r.2.2.1).2.1 (q.2.1 r.2.2.1).2.2.1]
    | none => []) else []
  | .putfield k => (match xi_cl[r.2.1]? with
    | some q => [.fieldLink qc.1.cls k (q.2.1 r.2.2.1).1 (q.2.1 r.2.2.1).2.1 (q.2.1 r.2.2.1).2.2.1]
    | none => [])
  | .new k => bif r.2.2.1 == 1 then (match rows[pc + 4]?, xi_ex[r.2.1]? with
    | some (some (.invokespecial ic, _)), some E => .classLink qc.1.cls k E :: .initialized E :: (vx_at0 qc.1.cls ic E xi_nm).filter goodWord
    | _, _ => []) else (match xi_cl[r.2.1]? with
    | some q => [.classLink qc.1.cls k q.1]
    | none => [])
  | .newarray .int => [.arrayClass .int]
  | .newarray .long => [.arrayClass .long]
  | .anewarray k => [.classLink qc.1.cls k "NoisyCodes$Way"]
  | .multianewarray k _ => [.classLink qc.1.cls k "[[I", .arrayClass .int]
  | .invokespecial k => bif decide (900 ≤ r.2.1) then (bif r.2.1 == 1000 then [.methodLink qc.1.cls k objectInit, .instanceMethod objectInit, .code objectInit ⟨#[0xb1]⟩ 1 none] else []) else (match xm_tab[r.2.1]? with
    | some q => (bif decide (r.2.2.2 = 0) then [.methodLink qc.1.cls k q.1] else []) ++ [.instanceMethod q.1, .initialized q.1.cls, xi_cw q]
    | none => [])
  | .invokestatic k => bif decide (900 ≤ r.2.1) then (bif r.2.1 == 1001 then [.methodLink qc.1.cls k arraycopyName, .native arraycopyName, .static arraycopyName, .initialized "java/lang/System"] else []) else (match xm_tab[r.2.1]? with
    | some q => (bif r.2.1 == xi_up then [.methodLink qc.1.cls k ⟨qc.1.cls, q.1.name, q.1.desc⟩, .sameMethod qc.1.cls q.1.cls q.1.name q.1.desc] else [.methodLink qc.1.cls k q.1]) ++ [.static q.1, .initialized q.1.cls, xi_cw q]
    | none => [])
  | .invokevirtual k => bif r.2.1 == 900 then [.methodLink qc.1.cls k xi_loc, .sameMethod xi_loc.cls "NoisyCodes$Way" xi_loc.name xi_loc.desc] ++ [4, 5, 6].flatMap (fun ci => match xi_vt 900 ci, xi_cl[ci]? with
      | some y, some rr => (match xm_tab[y]? with
        | some q => [.instanceMethod q.1, .initialized q.1.cls, xi_cw q, .selects rr.1 xi_loc q.1]
        | none => [])
      | _, _ => []) else (match xm_tab[r.2.1]? with
    | some q => [.methodLink qc.1.cls k q.1, .instanceMethod q.1, .initialized q.1.cls, xi_cw q, .selects q.1.cls q.1 q.1]
    | none => [])
  | _ => []
def xi_needN (qc : xm_T) (rows : List (Option xi_R)) (pc : Nat) (r : xi_R) : List Cond := match r.1 with
  | .getfield k => bif decide (r.2.2.2 = 0) then [] else (match xi_cl[r.2.1]? with
    | some q => [.fieldLinkNest qc.1.cls k (q.2.1 r.2.2.1).1 (q.2.1 r.2.2.1).2.1 (q.2.1 r.2.2.1).2.2.1 "NoisyCodes"]
    | none => [])
  | .new _ => bif r.2.2.1 == 1 then (match rows[pc + 4]?, xi_ex[r.2.1]? with
    | some (some (.invokespecial ic, _)), some E => (vx_at0 qc.1.cls ic E xi_nm).filter (fun w => !goodWord w)
    | _, _ => []) else []
  | .invokespecial k => bif decide (900 ≤ r.2.1) then [] else bif decide (r.2.2.2 = 0) then [] else (match xm_tab[r.2.1]? with
    | some q => [.methodLinkNest qc.1.cls k q.1 "NoisyCodes"]
    | none => [])
  | .invokevirtual _ => bif r.2.1 == 900 then [.declares ⟨"NoisyCodes$Way", xi_loc.name, xi_loc.desc⟩] else []
  | _ => []
-- handlers
def xi_okh (own : String) (hh : List (Nat × Nat × Nat × Nat)) (hk : List (Nat × Nat × Nat × List Nat)) : Prop := match hh, hk with
  | [], [] => True
  | a :: hh, q :: hk => a.1 = q.1 ∧ a.2.1 = q.2.1 ∧ a.2.2.1 = q.2.2.1 ∧ a.2.2.2 ≠ 0 ∧ (∃ x E, q.2.2.2 = [x] ∧ xi_ex[x]? = some E ∧ Cond.classLink own a.2.2.2 E ∈ xi_gw ∧ Cond.castable E E ∈ xi_nw) ∧ xi_okh own hh hk
  | _, _ => False
def xi_numh (hh : List (Nat × Nat × Nat × Nat)) (hk : List (Nat × Nat × Nat × List Nat)) : Bool := match hh, hk with
  | [], [] => true
  | a :: hh, q :: hk => a.1 == q.1 && a.2.1 == q.2.1 && a.2.2.1 == q.2.2.1 && !(a.2.2.2 == 0) && (match q.2.2.2 with
    | [x] => decide (x < xi_ex.length)
    | _ => false) && xi_numh hh hk
  | _, _ => false
def xi_needh (own : String) (hh : List (Nat × Nat × Nat × Nat)) (hk : List (Nat × Nat × Nat × List Nat)) : List Cond := match hh, hk with
  | a :: hh, q :: hk => (match q.2.2.2 with
    | [x] => [.classLink own a.2.2.2 (xi_ex.getD x "")]
    | _ => []) ++ xi_needh own hh hk
  | _, _ => []
def xi_needhN (hk : List (Nat × Nat × Nat × List Nat)) : List Cond := match hk with
  | q :: hk => (match q.2.2.2 with
    | [x] => [.castable (xi_ex.getD x "") (xi_ex.getD x "")]
    | _ => []) ++ xi_needhN hk
  | _ => []
-- a method: numbers and words
def xi_numm (q : xm_T) (mt : xi_M) : Bool := (List.range mt.1.length).all (fun pc => match mt.1[pc]? with
    | some (some r) => xi_num q mt.1 pc r
    | _ => true) && (match q.2.2.2.2.1 with
    | none => mt.2.1.isEmpty
    | some hh => xi_numh hh mt.2.1) && (match q.2.2.2.1 with
    | none => mt.2.2 == 0
    | some .int => mt.2.2 == 1
    | some .boolean => mt.2.2 == 2
    | _ => false)
def xi_needm (q : xm_T) (mt : xi_M) : List Cond := (List.range mt.1.length).flatMap (fun pc => match mt.1[pc]? with
    | some (some r) => xi_need q mt.1 pc r
    | _ => []) ++ (match q.2.2.2.2.1 with
    | none => []
    | some hh => xi_needh q.1.cls hh mt.2.1)
def xi_needmN (q : xm_T) (mt : xi_M) : List Cond := (List.range mt.1.length).flatMap (fun pc => match mt.1[pc]? with
    | some (some r) => xi_needN q mt.1 pc r
    | _ => []) ++ xi_needhN mt.2.1
-- what the tables say of each method
def xi_tabB (y : Nat) : Bool := match xm_tab[y]? with
  | some q => xi_pl q.1 && xi_par q.1.desc (xn_tab.getD y 0) && plainName q.1.cls && (match xi_cl[xc_tab.getD y 99]? with
    | some rr => decide (rr.1 = q.1.cls)
    | none => true) && (q.2.2.1 == xl_tab.getD y 0)
  | none => true
theorem xi_dec_ok {cc : ByteArray} {pc : Nat} {i : Instr} (h : xi_dec cc pc i = true) : ∃ n, decode cc pc = .ok (i, n) ∧ ((∀ d lo hi o, i ≠ .tableswitch d lo hi o) → n = xi_len i) := by
  unfold xi_dec at h
  split at h
  · rename_i j n hd
    obtain ⟨h1, h2⟩ := Bool.and_eq_true_iff.mp h
    have h1 := of_decide_eq_true h1
    subst h1
    refine ⟨n, hd, fun hs => ?_⟩
    rcases Bool.or_eq_true_iff.mp h2 with z | z
    · simpa using z
    · split at z
      · exact absurd rfl (hs _ _ _ _)
      · cases z
  · cases h
theorem xi_none {α : Type} {o : Option α} (h : o.isNone = true) : o = none := by
  cases o with
  | none => rfl
  | some _ => cases h
theorem xi_vt9 {ci y : Nat} (h : xi_vt 900 ci = some y) : ci = 4 ∨ ci = 5 ∨ ci = 6 := by
  unfold xi_vt at h
  simp only [beq_self_eq_true, cond_true] at h
  split at h
  · exact Or.inl rfl
  · exact Or.inr (Or.inl rfl)
  · exact Or.inr (Or.inr rfl)
  · cases h
theorem xi_vtn {a ci y : Nat} (ha : a ≠ 900) (h : xi_vt a ci = some y) : y = a ∧ xc_tab.getD a 99 = ci := by
  unfold xi_vt at h
  rw [show (a == 900) = false by simpa using ha] at h
  simp only [cond_false] at h
  cases hc : (xc_tab.getD a 99 == ci) with
  | false => rw [hc] at h; cases h
  | true =>
    rw [hc] at h
    have h : some a = some y := h
    cases h
    exact ⟨rfl, by simpa using hc⟩
section XK
variable {qc : xm_T} {rows : List (Option xi_R)} {pc : Nat} {k a b : Nat} {v : Int32}
set_option maxHeartbeats 4000000 in
theorem xi_ok_static (hT : ∀ y, xi_tabB y = true) (hn : xi_num qc rows pc (.invokestatic k, a, b, v) = true) (hw : ∀ w ∈ xi_need qc rows pc (.invokestatic k, a, b, v), w ∈ xi_gw) : xi_okr qc rows pc (.invokestatic k, a, b, v) := by
  obtain ⟨hd, hn⟩ := Bool.and_eq_true_iff.mp hn
  dsimp only at hn
  unfold xi_need at hw
  dsimp only at hw
  by_cases h9 : 900 ≤ a
  · rw [decide_eq_true h9] at hn hw
    simp only [cond_true] at hn hw
    refine ⟨hd, fun h => absurd (show a < 900 from h) (by omega), fun h => ?_, fun h => ?_⟩
    · have h : a = 1001 := h
      subst h
      simp only [beq_self_eq_true, cond_true] at hw
      exact ⟨hw _ (by simp), hw _ (by simp), hw _ (by simp), hw _ (by simp)⟩
    · have h : a = 1001 := h
      subst h
      simp only [beq_self_eq_true, Bool.not_true, Bool.false_or, Bool.and_eq_true, decide_eq_true_eq] at hn
      exact hn
  · rw [decide_eq_false h9] at hn hw
    simp only [cond_false] at hn hw
    split at hn
    · rename_i q hq
      rw [hq] at hw
      dsimp only at hw
      simp only [Bool.and_eq_true, beq_iff_eq] at hn
      obtain ⟨⟨n1, n2⟩, n3⟩ := hn
      have ht := hT a
      unfold xi_tabB at ht
      rw [hq] at ht
      simp only [Bool.and_eq_true] at ht
      obtain ⟨⟨⟨⟨t1, t2⟩, t3⟩, t4⟩, t5⟩ := ht
      have n3 : b = xn_tab.getD a 0 := n3
      refine ⟨hd, fun _ => ⟨q, hq, fun hu => ?_, fun hu => ?_, hw _ (by simp), hw _ (by simp), hw _ (by simp), n2, t1, by show xi_par _ b = true; rw [n3]; exact t2⟩, fun h => absurd (show a = 1001 from h) (by omega), fun h => absurd (show a = 1001 from h) (by omega)⟩
      · have hu : a = xi_up := hu
        rw [hu, beq_self_eq_true] at hw n1
        simp only [cond_true, Bool.not_true, Bool.false_or] at hw n1
        exact ⟨hw _ (by simp), hw _ (by simp), xi_none n1⟩
      · have hu : (a == xi_up) = false := by simpa using hu
        rw [hu] at hw
        simp only [cond_false] at hw
        exact hw _ (by simp)
    · cases hn
set_option maxHeartbeats 4000000 in
theorem xi_ok_special (hT : ∀ y, xi_tabB y = true) (hn : xi_num qc rows pc (.invokespecial k, a, b, v) = true) (hw : ∀ w ∈ xi_need qc rows pc (.invokespecial k, a, b, v), w ∈ xi_gw) (hwN : ∀ w ∈ xi_needN qc rows pc (.invokespecial k, a, b, v), w ∈ xi_nw) : xi_okr qc rows pc (.invokespecial k, a, b, v) := by
  obtain ⟨hd, hn⟩ := Bool.and_eq_true_iff.mp hn
  dsimp only at hn
  unfold xi_need at hw
  unfold xi_needN at hwN
  dsimp only at hw hwN
  by_cases h9 : 900 ≤ a
  · rw [decide_eq_true h9] at hn hw
    simp only [cond_true] at hn hw
    refine ⟨hd, fun h => absurd (show a < 900 from h) (by omega), fun h => ?_, fun h => ?_⟩
    · have h : a = 1000 := h
      subst h
      simp only [beq_self_eq_true, cond_true] at hw
      exact ⟨hw _ (by simp), hw _ (by simp), hw _ (by simp)⟩
    · have h : a = 1000 := h
      subst h
      simp only [beq_self_eq_true, Bool.not_true, Bool.false_or, Bool.and_eq_true, decide_eq_true_eq] at hn
      exact hn
  · rw [decide_eq_false h9] at hn hw hwN
    simp only [cond_false] at hn hw hwN
    split at hn
    · rename_i q hq
      rw [hq] at hw hwN
      dsimp only at hw hwN
      simp only [Bool.and_eq_true, beq_iff_eq, decide_eq_true_eq] at hn
      obtain ⟨⟨⟨⟨n1, n2⟩, n3⟩, n4⟩, n5⟩ := hn
      have ht := hT a
      unfold xi_tabB at ht
      rw [hq] at ht
      simp only [Bool.and_eq_true] at ht
      obtain ⟨⟨⟨⟨t1, t2⟩, t3⟩, t4⟩, t5⟩ := ht
      refine ⟨hd, fun _ => ⟨q, hq, xi_none n1, xi_none n2, n3, ?_, hw _ (by simp), hw _ (by simp), hw _ (by simp), n4, t1, by show xi_par _ (b - 1) = true; rw [n5]; exact t2⟩, fun h => absurd (show a = 1000 from h) (by omega), fun h => absurd (show a = 1000 from h) (by omega)⟩
      by_cases hv : v = 0
      · rw [decide_eq_true hv] at hw
        simp only [cond_true] at hw
        exact Or.inl (hw _ (by simp))
      · rw [decide_eq_false hv] at hwN
        simp only [cond_false] at hwN
        exact Or.inr (hwN _ (by simp))
    · cases hn
set_option maxHeartbeats 4000000 in
theorem xi_ok_virtual (hT : ∀ y, xi_tabB y = true) (hn : xi_num qc rows pc (.invokevirtual k, a, b, v) = true) (hw : ∀ w ∈ xi_need qc rows pc (.invokevirtual k, a, b, v), w ∈ xi_gw) (hwN : ∀ w ∈ xi_needN qc rows pc (.invokevirtual k, a, b, v), w ∈ xi_nw) : xi_okr qc rows pc (.invokevirtual k, a, b, v) := by
  obtain ⟨hd, hn⟩ := Bool.and_eq_true_iff.mp hn
  dsimp only at hn
  unfold xi_need at hw
  unfold xi_needN at hwN
  dsimp only at hw hwN
  refine ⟨hd, ⟨fun h => ?_, fun h => ?_⟩, trivial, trivial⟩
  · have h : a = 900 := h
    subst h
    simp only [beq_self_eq_true, cond_true] at hn hw hwN
    obtain ⟨n1, n2⟩ := Bool.and_eq_true_iff.mp hn
    intro ci y hy
    have hci := xi_vt9 hy
    have hm : ci ∈ [4, 5, 6] := by rcases hci with rfl | rfl | rfl <;> simp
    have n1 := List.all_eq_true.mp n1 ci hm
    rw [hy] at n1
    dsimp only at n1
    have hr : ∃ rr, xi_cl[ci]? = some rr := by rcases hci with rfl | rfl | rfl <;> exact ⟨_, rfl⟩
    obtain ⟨rr, hr⟩ := hr
    split at n1
    · rename_i q hq
      obtain ⟨n3, n4⟩ := Bool.and_eq_true_iff.mp n1
      have hwc : ∀ w ∈ [Cond.instanceMethod q.1, .initialized q.1.cls, xi_cw q, .selects rr.1 xi_loc q.1], w ∈ xi_gw := fun w hw9 => hw w (List.mem_append_right _ (List.mem_flatMap.mpr ⟨ci, hm, by rw [hy, hr]; dsimp only; rw [hq]; exact hw9⟩))
      have hw0 : ∀ w ∈ [Cond.methodLink qc.1.cls k xi_loc, .sameMethod xi_loc.cls "NoisyCodes$Way" xi_loc.name xi_loc.desc], w ∈ xi_gw := fun w hw9 => hw w (List.mem_append_left _ hw9)
      exact ⟨rr, q, hr, hq, xi_none n3, hw0 _ (by simp), hwc _ (by simp), hwc _ (by simp), hwc _ (by simp), hwc _ (by simp), hw0 _ (by simp), hwN _ (by simp), n4, by show xi_par _ (b - 1) = true; rw [show b = 5 by simpa using n2]; decide +kernel⟩
    · cases n1
  · have h : a ≠ 900 := h
    rw [show (a == 900) = false by simpa using h] at hn hw
    simp only [cond_false] at hn hw
    split at hn
    · rename_i q hq
      rw [hq] at hw
      dsimp only at hw
      simp only [Bool.and_eq_true, beq_iff_eq, decide_eq_true_eq] at hn
      obtain ⟨⟨⟨n1, n2⟩, n3⟩, n4⟩ := hn
      have ht := hT a
      unfold xi_tabB at ht
      rw [hq] at ht
      simp only [Bool.and_eq_true] at ht
      obtain ⟨⟨⟨⟨t1, t2⟩, t3⟩, t4⟩, t5⟩ := ht
      have hr := List.getElem?_eq_getElem n4
      rw [hr] at t4
      exact ⟨_, q, hr, hq, of_decide_eq_true t4, xi_none n1, hw _ (by simp), hw _ (by simp), hw _ (by simp), hw _ (by simp), hw _ (by simp), n2, t1, by show xi_par _ (b - 1) = true; rw [n3]; exact t2⟩
    · cases hn
set_option maxHeartbeats 4000000 in
theorem xi_ok_new (hn : xi_num qc rows pc (.new k, a, b, v) = true) (hfit : ∀ (x : Nat) (E : String), xi_ex[x]? = some E → Bundle.fit E = true) (hw : ∀ w ∈ xi_need qc rows pc (.new k, a, b, v), w ∈ xi_gw) (hwN : ∀ w ∈ xi_needN qc rows pc (.new k, a, b, v), w ∈ xi_nw) : xi_okr qc rows pc (.new k, a, b, v) := by
  obtain ⟨hd, hn⟩ := Bool.and_eq_true_iff.mp hn
  dsimp only at hn
  unfold xi_need at hw
  unfold xi_needN at hwN
  dsimp only at hw hwN
  refine ⟨hd, trivial, trivial, fun h ic z hz => ?_, fun h => ?_⟩
  · have h : b = 1 := h
    subst h
    simp only [beq_self_eq_true, cond_true] at hn hw hwN
    rw [hz] at hn hw hwN
    (try dsimp only at hn hw hwN)
    cases hE : xi_ex[a]? with
    | none => rw [hE] at hn; cases hn
    | some E =>
      rw [hE] at hn hw hwN
      dsimp only at hn hw hwN
      obtain ⟨hn, n3⟩ := Bool.and_eq_true_iff.mp hn
      obtain ⟨n1, n2⟩ := Bool.and_eq_true_iff.mp hn
      refine ⟨⟨E, hE, hfit a E hE, hw _ (by simp), hw _ (by simp), fun w hw9 => ?_, n1⟩, of_decide_eq_true n2, of_decide_eq_true n3⟩
      cases hg : goodWord w with
      | true => exact Or.inl (hw w (List.mem_cons_of_mem _ (List.mem_cons_of_mem _ (List.mem_filter.mpr ⟨hw9, hg⟩))))
      | false => exact Or.inr (hwN w (List.mem_filter.mpr ⟨hw9, by rw [hg]; rfl⟩))
  · have h : b = 0 := h
    subst h
    rw [show ((0 : Nat) == 1) = false from rfl] at hn hw
    simp only [cond_false] at hn hw
    have hl := of_decide_eq_true hn
    have hr := List.getElem?_eq_getElem hl
    rw [hr] at hw
    exact ⟨_, hr, hw _ (by simp)⟩
set_option maxHeartbeats 8000000 in
theorem xi_okr_of (hT : ∀ y, xi_tabB y = true) (hfit : ∀ (x : Nat) (E : String), xi_ex[x]? = some E → Bundle.fit E = true) {r : xi_R} (hn : xi_num qc rows pc r = true) (hw : ∀ w ∈ xi_need qc rows pc r, w ∈ xi_gw) (hwN : ∀ w ∈ xi_needN qc rows pc r, w ∈ xi_nw) : xi_okr qc rows pc r := by
  obtain ⟨i, a, b, v⟩ := r
  cases i
  case invokestatic k => exact xi_ok_static hT hn hw
  case invokespecial k => exact xi_ok_special hT hn hw hwN
  case invokevirtual k => exact xi_ok_virtual hT hn hw hwN
  case new k => exact xi_ok_new hn hfit hw hwN
  case getfield k =>
    obtain ⟨hd, hn⟩ := Bool.and_eq_true_iff.mp hn
    dsimp only at hn
    unfold xi_need at hw
    unfold xi_needN at hwN
    dsimp only at hw hwN
    split at hn
    · rename_i q hq
      rw [hq] at hw hwN
      dsimp only at hw hwN
      refine ⟨hd, trivial, trivial, ⟨q, hq, of_decide_eq_true hn, ?_⟩⟩
      by_cases hv : v = 0
      · rw [decide_eq_true hv] at hw
        simp only [cond_true] at hw
        exact Or.inl (hw _ (by simp))
      · rw [decide_eq_false hv] at hwN
        simp only [cond_false] at hwN
        exact Or.inr (hwN _ (by simp))
    · cases hn
  case putfield k =>
    obtain ⟨hd, hn⟩ := Bool.and_eq_true_iff.mp hn
    dsimp only at hn
    unfold xi_need at hw
    dsimp only at hw
    split at hn
    · rename_i q hq
      rw [hq] at hw
      dsimp only at hw
      obtain ⟨n1, n2⟩ := Bool.and_eq_true_iff.mp hn
      refine ⟨hd, trivial, trivial, ⟨q, hq, of_decide_eq_true n1, hw _ (by simp), ?_⟩⟩
      rcases Bool.or_eq_true_iff.mp n2 with z | z
      · exact Or.inl (by simpa using z)
      · obtain ⟨z1, z2⟩ := Bool.and_eq_true_iff.mp z
        exact Or.inr ⟨of_decide_eq_true z1, of_decide_eq_true z2⟩
    · cases hn
  case ldc k => exact ⟨(Bool.and_eq_true_iff.mp hn).1, trivial, trivial, hw _ (by simp [xi_need])⟩
  case ldc_w k => exact ⟨(Bool.and_eq_true_iff.mp hn).1, trivial, trivial, hw _ (by simp [xi_need])⟩
  case goto o => exact ⟨(Bool.and_eq_true_iff.mp hn).1, trivial, trivial, show (pc : Int) + o = (a : Int) from of_decide_eq_true (show decide ((pc : Int) + o = (a : Int)) = true from (Bool.and_eq_true_iff.mp hn).2)⟩
  case ifCond c o => exact ⟨(Bool.and_eq_true_iff.mp hn).1, trivial, trivial, show (pc : Int) + o = (a : Int) from of_decide_eq_true (show decide ((pc : Int) + o = (a : Int)) = true from (Bool.and_eq_true_iff.mp hn).2)⟩
  case if_icmp c o => exact ⟨(Bool.and_eq_true_iff.mp hn).1, trivial, trivial, show (pc : Int) + o = (a : Int) from of_decide_eq_true (show decide ((pc : Int) + o = (a : Int)) = true from (Bool.and_eq_true_iff.mp hn).2)⟩
  case istore_n k => exact ⟨(Bool.and_eq_true_iff.mp hn).1, trivial, trivial, show k.val < qc.2.2.1 from of_decide_eq_true (show decide (k.val < qc.2.2.1) = true from (Bool.and_eq_true_iff.mp hn).2)⟩
  case istore k => exact ⟨(Bool.and_eq_true_iff.mp hn).1, trivial, trivial, show k < qc.2.2.1 from of_decide_eq_true (show decide (k < qc.2.2.1) = true from (Bool.and_eq_true_iff.mp hn).2)⟩
  case astore_n k => exact ⟨(Bool.and_eq_true_iff.mp hn).1, trivial, trivial, show k.val < qc.2.2.1 from of_decide_eq_true (show decide (k.val < qc.2.2.1) = true from (Bool.and_eq_true_iff.mp hn).2)⟩
  case astore k => exact ⟨(Bool.and_eq_true_iff.mp hn).1, trivial, trivial, show k < qc.2.2.1 from of_decide_eq_true (show decide (k < qc.2.2.1) = true from (Bool.and_eq_true_iff.mp hn).2)⟩
  case iinc k d => exact ⟨(Bool.and_eq_true_iff.mp hn).1, trivial, trivial, show k < qc.2.2.1 from of_decide_eq_true (show decide (k < qc.2.2.1) = true from (Bool.and_eq_true_iff.mp hn).2)⟩
  case newarray t =>
    refine ⟨(Bool.and_eq_true_iff.mp hn).1, trivial, trivial, ?_⟩
    cases t <;> first | exact hw _ (by simp [xi_need]) | trivial
  case anewarray k => exact ⟨(Bool.and_eq_true_iff.mp hn).1, trivial, trivial, by simpa using (Bool.and_eq_true_iff.mp hn).2, hw _ (by simp [xi_need])⟩
  case multianewarray k j => exact ⟨(Bool.and_eq_true_iff.mp hn).1, trivial, trivial, by simpa using (Bool.and_eq_true_iff.mp hn).2, hw _ (by simp [xi_need]), hw _ (by simp [xi_need])⟩
  all_goals exact ⟨(Bool.and_eq_true_iff.mp hn).1, trivial, trivial, trivial⟩
end XK
theorem xi_okh_of {own : String} : ∀ {hh : List (Nat × Nat × Nat × Nat)} {hk : List (Nat × Nat × Nat × List Nat)}, xi_numh hh hk = true → (∀ w ∈ xi_needh own hh hk, w ∈ xi_gw) → (∀ w ∈ xi_needhN hk, w ∈ xi_nw) → xi_okh own hh hk := by
  intro hh
  induction hh with
  | nil =>
    intro hk hn hw hwN
    cases hk with
    | nil => exact trivial
    | cons q hk => cases hn
  | cons a hh ih =>
    intro hk hn hw hwN
    cases hk with
    | nil => cases hn
    | cons q hk =>
      unfold xi_numh at hn
      unfold xi_needh at hw
      unfold xi_needhN at hwN
      simp only [Bool.and_eq_true, beq_iff_eq, Bool.not_eq_true', beq_eq_false_iff_ne] at hn
      obtain ⟨⟨⟨⟨⟨n1, n2⟩, n3⟩, n4⟩, n5⟩, n6⟩ := hn
      refine ⟨n1, n2, n3, n4, ?_, ih n6 (fun w h => hw w (List.mem_append_right _ h)) (fun w h => hwN w (List.mem_append_right _ h))⟩
      split at n5
      · rename_i x hx
        rw [hx] at hw hwN
        dsimp only at hw hwN
        have hl := of_decide_eq_true n5
        have hE := List.getElem?_eq_getElem hl
        have hg : xi_ex.getD x "" = xi_ex[x] := by rw [List.getD_eq_getElem?_getD, hE]; rfl
        rw [hg] at hw hwN
        exact ⟨x, xi_ex[x], hx, hE, hw _ (List.mem_append_left _ List.mem_cons_self), hwN _ (List.mem_append_left _ List.mem_cons_self)⟩
      · cases n5
theorem xi_rows_of {q : xm_T} {mt : xi_M} (hT : ∀ y, xi_tabB y = true) (hfit : ∀ (x : Nat) (E : String), xi_ex[x]? = some E → Bundle.fit E = true) (hn : xi_numm q mt = true) (hw : ∀ w ∈ xi_needm q mt, w ∈ xi_gw) (hwN : ∀ w ∈ xi_needmN q mt, w ∈ xi_nw) : ∀ pc r, mt.1[pc]? = some (some r) → xi_okr q mt.1 pc r := fun pc r hr => by
  have hl := (List.getElem?_eq_some_iff.mp hr).1
  have hm : pc ∈ List.range mt.1.length := List.mem_range.mpr hl
  unfold xi_numm at hn
  obtain ⟨hn, -⟩ := Bool.and_eq_true_iff.mp hn
  obtain ⟨hn, -⟩ := Bool.and_eq_true_iff.mp hn
  have hn := List.all_eq_true.mp hn pc hm
  rw [hr] at hn
  exact xi_okr_of hT hfit hn (fun w h => hw w (List.mem_append_left _ (List.mem_flatMap.mpr ⟨pc, hm, by rw [hr]; exact h⟩))) (fun w h => hwN w (List.mem_append_left _ (List.mem_flatMap.mpr ⟨pc, hm, by rw [hr]; exact h⟩)))
def xi_okM (q : xm_T) (mt : xi_M) : Prop := (∀ pc r, mt.1[pc]? = some (some r) → xi_okr q mt.1 pc r) ∧ (match q.2.2.2.2.1 with
    | none => mt.2.1 = []
    | some hh => xi_okh q.1.cls hh mt.2.1) ∧ ((q.2.2.2.1 = none ∧ mt.2.2 = 0) ∨ (q.2.2.2.1 = some .int ∧ mt.2.2 = 1) ∨ (q.2.2.2.1 = some .boolean ∧ mt.2.2 = 2))
set_option maxRecDepth 100000 in
theorem xi_tab_all : (List.range xm_tab.length).all xi_tabB = true := by decide +kernel
theorem xi_tabT (y : Nat) : xi_tabB y = true := by
  by_cases h : y < xm_tab.length
  · exact List.all_eq_true.mp xi_tab_all y (List.mem_range.mpr h)
  · unfold xi_tabB
    rw [List.getElem?_eq_none (by omega)]
theorem xi_fitT : ∀ (x : Nat) (E : String), xi_ex[x]? = some E → Bundle.fit E = true := fun x E h => List.all_eq_true.mp (show xi_ex.all Bundle.fit = true by decide +kernel) E (List.mem_of_getElem? h)
theorem xi_okM_of {q : xm_T} {mt : xi_M} {ps ns : List Nat} (hn : xi_numm q mt = true) (hw : xi_lk ps = xi_needm q mt) (hp : ps.all (fun i => decide (i < xi_lwn)) = true) (hg : (xi_lk ps).all goodWord = true) (hwN : xi_lkn ns = xi_needmN q mt) (hpN : ns.all (fun i => decide (i < xi_nw.length)) = true) : xi_okM q mt := by
  have hw : ∀ w ∈ xi_needm q mt, w ∈ xi_gw := xi_lk_in hw hp hg
  have hwN : ∀ w ∈ xi_needmN q mt, w ∈ xi_nw := xi_lkn_in hwN hpN
  refine ⟨xi_rows_of xi_tabT xi_fitT hn hw hwN, ?_, ?_⟩
  · unfold xi_numm at hn
    obtain ⟨hn, -⟩ := Bool.and_eq_true_iff.mp hn
    obtain ⟨-, hn⟩ := Bool.and_eq_true_iff.mp hn
    unfold xi_needm at hw
    unfold xi_needmN at hwN
    cases hh : q.2.2.2.2.1 with
    | none => rw [hh] at hn; exact List.isEmpty_iff.mp hn
    | some h9 =>
      rw [hh] at hn hw
      exact xi_okh_of hn (fun w h => hw w (List.mem_append_right _ h)) (fun w h => hwN w (List.mem_append_right _ h))
  · unfold xi_numm at hn
    obtain ⟨-, hn⟩ := Bool.and_eq_true_iff.mp hn
    split at hn
    · rename_i h9; exact Or.inl ⟨h9, by simpa using hn⟩
    · rename_i h9; exact Or.inr (Or.inl ⟨h9, by simpa using hn⟩)
    · rename_i h9; exact Or.inr (Or.inr ⟨h9, by simpa using hn⟩)
    · cases hn
def xi_F : List xm_T → List xi_M → Prop
  | [], [] => True
  | q :: l, m :: k => xi_okM q m ∧ xi_F l k
  | _, _ => False
theorem xi_F_at : ∀ {l : List xm_T} {k : List xi_M} {y : Nat} {q : xm_T} {m : xi_M}, xi_F l k → l[y]? = some q → k[y]? = some m → xi_okM q m := by
  intro l
  induction l with
  | nil => intro k y q m _ h _; cases h
  | cons a l ih =>
    intro k y q m hF h1 h2
    cases k with
    | nil => cases h2
    | cons b k =>
      obtain ⟨h3, h4⟩ := hF
      cases y with
      | zero => cases h1; cases h2; exact h3
      | succ y => exact ih h4 h1 h2
-- a long method, stretch by stretch
def xi_numr (q : xm_T) (mt : xi_M) (lo n : Nat) : Bool := (List.range' lo n).all (fun pc => match mt.1[pc]? with
    | some (some r) => xi_num q mt.1 pc r
    | _ => true)
def xi_needr (q : xm_T) (mt : xi_M) (lo n : Nat) : List Cond := (List.range' lo n).flatMap (fun pc => match mt.1[pc]? with
    | some (some r) => xi_need q mt.1 pc r
    | _ => [])
def xi_needrN (q : xm_T) (mt : xi_M) (lo n : Nat) : List Cond := (List.range' lo n).flatMap (fun pc => match mt.1[pc]? with
    | some (some r) => xi_needN q mt.1 pc r
    | _ => [])
def xi_segOk (q : xm_T) (mt : xi_M) (lo n : Nat) : Prop := ∀ pc r, lo ≤ pc → pc < lo + n → mt.1[pc]? = some (some r) → xi_okr q mt.1 pc r
theorem xi_segOk_of {q : xm_T} {mt : xi_M} {lo n : Nat} {ps ns : List Nat} (hn : xi_numr q mt lo n = true) (hw : xi_lk ps = xi_needr q mt lo n) (hp : ps.all (fun i => decide (i < xi_lwn)) = true) (hg : (xi_lk ps).all goodWord = true) (hwN : xi_lkn ns = xi_needrN q mt lo n) (hpN : ns.all (fun i => decide (i < xi_nw.length)) = true) : xi_segOk q mt lo n := fun pc r h1 h2 hr => by
  have hw : ∀ w ∈ xi_needr q mt lo n, w ∈ xi_gw := xi_lk_in hw hp hg
  have hwN : ∀ w ∈ xi_needrN q mt lo n, w ∈ xi_nw := xi_lkn_in hwN hpN
  have hm : pc ∈ List.range' lo n := List.mem_range'_1.mpr ⟨h1, h2⟩
  have hn := List.all_eq_true.mp hn pc hm
  rw [hr] at hn
  exact xi_okr_of xi_tabT xi_fitT hn (fun w h => hw w (List.mem_flatMap.mpr ⟨pc, hm, by rw [hr]; exact h⟩)) (fun w h => hwN w (List.mem_flatMap.mpr ⟨pc, hm, by rw [hr]; exact h⟩))
def xi_segs (q : xm_T) (mt : xi_M) : List (Nat × Nat) → Prop
  | [] => True
  | s :: l => xi_segOk q mt s.1 s.2 ∧ xi_segs q mt l
theorem xi_segs_at {q : xm_T} {mt : xi_M} : ∀ {l : List (Nat × Nat)}, xi_segs q mt l → ∀ s ∈ l, xi_segOk q mt s.1 s.2 := by
  intro l
  induction l with
  | nil => intro _ s hs; cases hs
  | cons a l ih =>
    intro h s hs
    rcases List.mem_cons.mp hs with e | e
    · rw [e]; exact h.1
    · exact ih h.2 s e
theorem xi_rows_seg {q : xm_T} {mt : xi_M} {segs : List (Nat × Nat)} {len : Nat} (hlen : mt.1.length = len) (hcov : (List.range len).all (fun pc => segs.any (fun s => decide (s.1 ≤ pc) && decide (pc < s.1 + s.2))) = true) (hs : xi_segs q mt segs) : ∀ pc r, mt.1[pc]? = some (some r) → xi_okr q mt.1 pc r := fun pc r hr => by
  have hl := (List.getElem?_eq_some_iff.mp hr).1
  obtain ⟨s, hs1, hs2⟩ := List.any_eq_true.mp (List.all_eq_true.mp hcov pc (List.mem_range.mpr (by omega)))
  obtain ⟨c1, c2⟩ := Bool.and_eq_true_iff.mp hs2
  exact xi_segs_at hs s hs1 pc r (of_decide_eq_true c1) (of_decide_eq_true c2) hr
