/-! The law's start: from the tables' words to what the contracts ask. DRAFT until it has compiled once. -/
section XZ
variable {s : State} {args : Array Value}
theorem xi_known (hts : ∀ w ∈ xi_gw, w.before args s = true) : ∃ D : va_G, ∀ (c : Nat) (q : vw_C), xi_cl[c]? = some q → u_Kn s q.1 q.2.1 q.2.2 (D.1 c) (D.2 c) := by
  have h : ∀ c : Nat, ∃ z : ClassId × (Nat → Nat), ∀ q : vw_C, xi_cl[c]? = some q → u_Kn s q.1 q.2.1 q.2.2 z.1 z.2 := by
    intro c
    cases hc : xi_cl[c]? with
    | none => exact ⟨(0, fun _ => 0), fun q h => by cases h⟩
    | some q =>
      obtain ⟨h1, -, -, -, h5, -⟩ := xi_clOk c q hc
      obtain ⟨cC, iS, hk⟩ := u_known hts h1 (hts _ h5)
      exact ⟨(cC, iS), fun q' h => by cases h; exact hk⟩
  exact ⟨(fun c => (Classical.choose (h c)).1, fun c => (Classical.choose (h c)).2), fun c q hq => Classical.choose_spec (h c) q hq⟩
theorem xi_arrs (h0 : (Cond.arrayClass .int).before args s = true) (h1 : (Cond.arrayClass .long).before args s = true) (h2 : (Cond.arrayOver (.object "NoisyCodes$Way")).before args s = true) (h3 : (Cond.arrayOver (.array .int)).before args s = true) :
    ∃ cs : Nat → ClassId, ∀ (k : Nat) (q : ClassId × FieldType), (xi_ty cs)[k]? = some q → ArrOfT s q.1 q.2 ∧ va_RA s q.1 q.2 := by
  obtain ⟨c0, k0, p0, a1, a2, a3⟩ := Cond.arrayClass_spec h0
  obtain ⟨c1, k1, p1, b1, b2, b3⟩ := Cond.arrayClass_spec h1
  obtain ⟨p2, c2, k2, d1, d2, d3, d4, d5⟩ := Cond.arrayOver_spec h2
  obtain ⟨p3, c3, k3, e1, e2, e3, e4, e5⟩ := arrayOverA_spec h3
  refine ⟨fun i => if i = 0 then c0 else if i = 1 then c1 else if i = 2 then c2 else c3, fun k q hq => ?_⟩
  have hk : k < 4 := (List.getElem?_eq_some_iff.mp hq).1
  rcases (show k = 0 ∨ k = 1 ∨ k = 2 ∨ k = 3 by omega) with rfl | rfl | rfl | rfl
  · cases hq
    exact ⟨fun N z => ⟨fun q hq => (by cases hq), k0, a2, p0, a3⟩, a1⟩
  · cases hq
    exact ⟨fun N z => ⟨fun q hq => (by cases hq), k1, b2, p1, b3⟩, b1⟩
  · cases hq
    exact ⟨fun N z => ⟨fun q hq => (by cases hq), k2, d3, p2, d4⟩, k2, p2, d3, d4, d1, d5⟩
  · cases hq
    exact ⟨fun N z => ⟨fun q hq => (by cases hq), k3, e3, p3, e4⟩, e5⟩
end XZ
theorem xi_nw_in : ∀ w ∈ xi_nw, w ∈ lw_tbl := by decide +kernel
theorem xi_nc_in : ∀ q ∈ xi_nc, Cond.not (.castable q.1 q.2) ∈ flatC (Jvm.Cond.and given_1 narrow_1) := by decide +kernel
set_option maxHeartbeats 4000000 in
theorem xi_startTb {s : State} {b : Addr} {X : List Int32} (hts : ∀ w ∈ lw_tbl, w.before #[Value.ref b] s = true) (hgv : (Jvm.Cond.and given_1 narrow_1).before #[Value.ref b] s = true) (hX : va_X b X.length (fun j => X.getD j 0) s s.heap) (hb : b < s.heap.size) : ∃ (D : va_G) (cs : Nat → ClassId), xi_Tb D cs b s.heap.size X s := by
  have hgw : ∀ w ∈ xi_gw, w.before #[Value.ref b] s = true := fun w hw => hts w (List.mem_filter.mp hw).1
  obtain ⟨D, hD⟩ := xi_known hgw
  have hfl := flat_of_before _ hgv
  have hAO : (Cond.arrayOver (.object "NoisyCodes$Way")).before #[Value.ref b] s = true := hts _ (by decide +kernel)
  have hAA : (Cond.arrayOver (.array .int)).before #[Value.ref b] s = true := hts _ (by decide +kernel)
  obtain ⟨cs, hcs⟩ := xi_arrs (hts _ (by decide +kernel)) (hts _ (by decide +kernel)) hAO hAA
  refine ⟨D, cs, ⟨hD, hcs⟩, hX, hb, Nat.le_refl _, fun w hw => ?_, fun q hq => ?_, va_AO.of hAO, hAA, ?_, ?_⟩
  · exact va_Nw.of (by have h9 := xi_nw_all w hw; unfold xi_nwk at h9; split at h9 <;> first | rfl | cases h9) (hts w (xi_nw_in w hw))
  · exact va_Nc.of (hfl _ (xi_nc_in q hq))
  · exact vx_Zqof (hts _ (by decide +kernel)) (hts _ (by decide +kernel)) (hfl _ (by decide +kernel)) (fun a ha h => by omega)
  · exact vx_Zqof (hts _ (by decide +kernel)) (hts _ (by decide +kernel)) (hfl _ (by decide +kernel)) (fun a ha h => by omega)
-- the script alone
theorem xi_startWd {s : State} {b : Addr} {X : List Int32} (D : va_G) (cs : Nat → ClassId) : xi_Wd D cs b s.heap.size X (fun _ => True) [b] [.inl X] s.heap :=
  ⟨rfl, rfl, rfl, fun a ha => (by cases ha), fun k q hk => (by cases hk), ⟨fun i j p q hi => (by cases hi), fun k q hk => (by cases hk)⟩⟩
