/-! Leaves of the class: Field.product. Blocks printed by sym.py. DRAFT until it has compiled once. -/
theorem xb_20_0 (c0 c1 c2 : xi_C) (n a b : Int32) (P L : List Int32) (tl : List xi_C) : xi_runc xr_20 2 (0, [(0, .ref 3), (1, .int a), (2, .int b)], [], c0 :: c1 :: c2 :: .inr (.inr (.inr (2, [.ref 4, .ref 5, .int n]))) :: .inl P :: .inl L :: tl) = some ([], (bif xi_cmp .eq a 0 then 8 else 4, [(0, .ref 3), (1, .int a), (2, .int b)], [], c0 :: c1 :: c2 :: .inr (.inr (.inr (2, [.ref 4, .ref 5, .int n]))) :: .inl P :: .inl L :: tl)) := by rfl
theorem xb_20_4 (c0 c1 c2 : xi_C) (n a b : Int32) (P L : List Int32) (tl : List xi_C) : xi_runc xr_20 2 (4, [(0, .ref 3), (1, .int a), (2, .int b)], [], c0 :: c1 :: c2 :: .inr (.inr (.inr (2, [.ref 4, .ref 5, .int n]))) :: .inl P :: .inl L :: tl) = some ([], (bif xi_cmp .ne b 0 then 12 else 8, [(0, .ref 3), (1, .int a), (2, .int b)], [], c0 :: c1 :: c2 :: .inr (.inr (.inr (2, [.ref 4, .ref 5, .int n]))) :: .inl P :: .inl L :: tl)) := by rfl
theorem xb_20_8 (c0 c1 c2 : xi_C) (n a b : Int32) (P L : List Int32) (tl : List xi_C) : xi_runc xr_20 2 (8, [(0, .ref 3), (1, .int a), (2, .int b)], [], c0 :: c1 :: c2 :: .inr (.inr (.inr (2, [.ref 4, .ref 5, .int n]))) :: .inl P :: .inl L :: tl) = some ([], (35, [(0, .ref 3), (1, .int a), (2, .int b)], [.int 0], c0 :: c1 :: c2 :: .inr (.inr (.inr (2, [.ref 4, .ref 5, .int n]))) :: .inl P :: .inl L :: tl)) := by rfl
theorem xb_20_12 (c0 c1 c2 : xi_C) (n a b : Int32) (P L : List Int32) (tl : List xi_C) : xi_runc xr_20 15 (12, [(0, .ref 3), (1, .int a), (2, .int b)], [], c0 :: c1 :: c2 :: .inr (.inr (.inr (2, [.ref 4, .ref 5, .int n]))) :: .inl P :: .inl L :: tl) = some ([xi_in a (L).length, xi_in b (L).length, !decide (n = 0), xi_in ((((L).getD (a).toNatClampNeg 0) + ((L).getD (b).toNatClampNeg 0)) - (((L).getD (a).toNatClampNeg 0) + ((L).getD (b).toNatClampNeg 0)) / n * n) (P).length], (35, [(0, .ref 3), (1, .int a), (2, .int b)], [.int ((P).getD (((((L).getD (a).toNatClampNeg 0) + ((L).getD (b).toNatClampNeg 0)) - (((L).getD (a).toNatClampNeg 0) + ((L).getD (b).toNatClampNeg 0)) / n * n)).toNatClampNeg 0)], c0 :: c1 :: c2 :: .inr (.inr (.inr (2, [.ref 4, .ref 5, .int n]))) :: .inl P :: .inl L :: tl)) := by rfl
-- the field's cells, and what lies around them
abbrev xh_F (c0 c1 c2 : xi_C) (n : Int32) (P L : List Int32) (tl : List xi_C) : List xi_C := c0 :: c1 :: c2 :: .inr (.inr (.inr (2, [.ref 4, .ref 5, .int n]))) :: .inl P :: .inl L :: tl
def xp_rem (x n : Int32) : Int32 := x - x / n * n
def xp_prod (P L : List Int32) (n a b : Int32) : Int32 := bif xi_cmp .eq a 0 then 0 else bif xi_cmp .ne b 0 then P.getD (xp_rem (L.getD a.toNatClampNeg 0 + L.getD b.toNatClampNeg 0) n).toNatClampNeg 0 else 0
theorem xs_product (d : Nat) (c0 c1 c2 : xi_C) (n a b : Int32) (P L : List Int32) (tl : List xi_C) (ha : xi_in a L.length = true) (hb : xi_in b L.length = true) (hn : ¬ n = 0) (hi : xi_in (xp_rem (L.getD a.toNatClampNeg 0 + L.getD b.toNatClampNeg 0) n) P.length = true) :
    xi_at (d + 1) 20 [.ref 3, .int a, .int b] (xh_F c0 c1 c2 n P L tl) (.inl (some (.int (xp_prod P L n a b)))) (xh_F c0 c1 c2 n P L tl) 0 0 := by
  refine xi_at.of (mt := xt_20) rfl rfl ?_
  refine xi_E.runc (Nat.le_refl _) (Nat.le_refl _) 2 (xb_20_0 c0 c1 c2 n a b P L tl) rfl ?_
  have hz : xi_cmp .eq a 0 = true → xi_E xi_ks xi_vt xt_20 (xi_at d) 0 0 (fun o1 h1 => o1 = .inl (some (.int (xp_prod P L n a b))) ∧ h1 = xh_F c0 c1 c2 n P L tl) 0 0 (8, [(0, .ref 3), (1, .int a), (2, .int b)], [], xh_F c0 c1 c2 n P L tl) := fun h1 => by
    refine xi_E.runc (Nat.le_refl _) (Nat.le_refl _) 2 (xb_20_8 c0 c1 c2 n a b P L tl) rfl ?_
    exact xi_E.ret (Nat.le_refl _) (Nat.le_refl _) (r := (.ireturn, 0, 0, 0)) rfl rfl rfl ⟨by unfold xp_prod; rw [h1]; rfl, rfl⟩
  refine xi_E.bif hz (fun h1 => ?_)
  refine xi_E.runc (Nat.le_refl _) (Nat.le_refl _) 2 (xb_20_4 c0 c1 c2 n a b P L tl) rfl ?_
  refine xi_E.bif (fun h2 => ?_) (fun h2 => ?_)
  · refine xi_E.runc (Nat.le_refl _) (Nat.le_refl _) 15 (xb_20_12 c0 c1 c2 n a b P L tl) (by
      have hn' : (!decide (n = 0)) = true := by simpa using hn
      unfold xp_rem at hi
      simp only [List.all_cons, List.all_nil, id, ha, hb, hn', hi, Bool.and_self]) ?_
    exact xi_E.ret (Nat.le_refl _) (Nat.le_refl _) (r := (.ireturn, 0, 0, 0)) rfl rfl rfl ⟨by unfold xp_prod xp_rem; rw [h1, h2]; rfl, rfl⟩
  · refine xi_E.runc (Nat.le_refl _) (Nat.le_refl _) 2 (xb_20_8 c0 c1 c2 n a b P L tl) rfl ?_
    exact xi_E.ret (Nat.le_refl _) (Nat.le_refl _) (r := (.ireturn, 0, 0, 0)) rfl rfl rfl ⟨by unfold xp_prod; rw [h1, h2]; rfl, rfl⟩
