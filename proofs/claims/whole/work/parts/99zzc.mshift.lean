/-! THE REFERENCE: formulas some rows on -/
def shp (G : DG) (n : Nat) (x : Int32 × Int32) : Int32 × Int32 := if x.1 = N 3 then (N 3, N (rcan (rlow G n x.2.toNatClampNeg))) else x
section LAY
variable {μ μ' μ'' ν : jM} {M g h t s n w d D i j k x y a b c f q p m v : Nat} {A B C : GA} {σ : SG} {G : DG} {e : Ex}
theorem shp_3 {i : Nat} (hi : i < 1000) : shp G n (N 3, N i) = (N 3, N (rcan (rlow G n i))) := by
  unfold shp
  rw [if_pos rfl, N_nat (by omega)]
theorem shp_id {x : Int32 × Int32} (h : x.1 ≠ N 3) : shp G n x = x := if_neg h
theorem rlow_lt (h : KK G) {i : Nat} (hi : rK i) : rlow G n i < 1000 := rK_lt (rlow_K h hi)
theorem enc_low (h : KK G) : ∀ (e : Ex) (u : Nat), lv u e → encE (ecan (elow G n e)) = (encE e).map (shp G n)
  | .natCast v, u, hu => rfl
  | .intCast v, u, hu => hu.elim
  | .var i, u, hu => by
    show [(N 3, N (rcan (rlow G n i)))] = [shp G n (N 3, N i)]
    rw [shp_3 (rK_lt hu)]
  | .num z, u, hu => by
    obtain ⟨h0, h1, h2, h3⟩ := hu
    have r2 := rlow_lt h (n := n) h2
    have r3 := rlow_lt h (n := n) h3
    obtain ⟨y1, y2, y3⟩ := rcode (w := z.toNat / 1000000) r2 r3
    obtain ⟨x1, x2, x3⟩ := rcode (w := z.toNat / 1000000) (rcan_lt r2) (rcan_lt r3)
    have e1 : ecan (elow G n (.num z)) = .num ((z.toNat / 1000000 * 1000000 + rcan (rlow G n (z.toNat / 1000 % 1000)) * 1000 + rcan (rlow G n (z.toNat % 1000)) : Nat) : Int) := by
      show ecan (.num ((z.toNat / 1000000 * 1000000 + rlow G n (z.toNat / 1000 % 1000) * 1000 + rlow G n (z.toNat % 1000) : Nat) : Int)) = _
      show (Lean.Grind.CommRing.Expr.num _ : Ex) = .num _
      rw [Int.toNat_natCast, y1, y2, y3]
    rw [e1]
    show [(N 2, N ((((z.toNat / 1000000 * 1000000 + rcan (rlow G n (z.toNat / 1000 % 1000)) * 1000 + rcan (rlow G n (z.toNat % 1000)) : Nat) : Int)).toNat / 1000000)), (N 1, N 40), (N 3, N ((((z.toNat / 1000000 * 1000000 + rcan (rlow G n (z.toNat / 1000 % 1000)) * 1000 + rcan (rlow G n (z.toNat % 1000)) : Nat) : Int)).toNat / 1000 % 1000)), (N 1, N 58), (N 3, N ((((z.toNat / 1000000 * 1000000 + rcan (rlow G n (z.toNat / 1000 % 1000)) * 1000 + rcan (rlow G n (z.toNat % 1000)) : Nat) : Int)).toNat % 1000)), (N 1, N 41)] = [shp G n (N 2, N (z.toNat / 1000000)), shp G n (N 1, N 40), shp G n (N 3, N (z.toNat / 1000 % 1000)), shp G n (N 1, N 58), shp G n (N 3, N (z.toNat % 1000)), shp G n (N 1, N 41)]
    rw [Int.toNat_natCast, x1, x2, x3, shp_3 (rK_lt h2), shp_3 (rK_lt h3)]
    rfl
  | .neg e, u, hu => by
    show (N 1, N 45) :: encE (ecan (elow G n e)) = shp G n (N 1, N 45) :: (encE e).map (shp G n)
    rw [enc_low h e 0 hu]; rfl
  | .pow e _, u, hu => by
    show (N 1, N 40) :: (encE (ecan (elow G n e)) ++ [(N 1, N 41)]) = shp G n (N 1, N 40) :: (encE e ++ [(N 1, N 41)]).map (shp G n)
    rw [enc_low h e 2 hu.2, List.map_append]; rfl
  | .add a b, u, hu => by
    show encE (ecan (elow G n a)) ++ (N 1, N 43) :: encE (ecan (elow G n b)) = (encE a ++ (N 1, N 43) :: encE b).map (shp G n)
    rw [enc_low h a 2 hu.2.1, enc_low h b 1 hu.2.2, List.map_append]; rfl
  | .sub a b, u, hu => by
    show encE (ecan (elow G n a)) ++ (N 1, N 45) :: encE (ecan (elow G n b)) = (encE a ++ (N 1, N 45) :: encE b).map (shp G n)
    rw [enc_low h a 2 hu.2.1, enc_low h b 1 hu.2.2, List.map_append]; rfl
  | .mul a b, u, hu => by
    show encE (ecan (elow G n a)) ++ (N 1, N 42) :: encE (ecan (elow G n b)) = (encE a ++ (N 1, N 42) :: encE b).map (shp G n)
    rw [enc_low h a 1 hu.2.1, enc_low h b 0 hu.2.2, List.map_append]; rfl
theorem rcan_rcan {i : Nat} : rcan (rcan i) = rcan i := by
  unfold rcan
  by_cases e : i / 8 = 0
  · rw [if_pos e]; rfl
  · rw [if_neg e, if_neg e]
theorem ecan_ecan : ∀ (e : Ex) (u : Nat), lv u e → ecan (ecan e) = ecan e
  | .natCast v, u, hu => rfl
  | .intCast v, u, hu => rfl
  | .var i, u, hu => by
    show (Lean.Grind.CommRing.Expr.var (rcan (rcan i)) : Ex) = .var (rcan i)
    rw [rcan_rcan]
  | .num z, u, hu => by
    obtain ⟨h0, h1, h2, h3⟩ := hu
    obtain ⟨x1, x2, x3⟩ := rcode (w := z.toNat / 1000000) (rcan_lt (rK_lt h2)) (rcan_lt (rK_lt h3))
    show ecan (.num ((z.toNat / 1000000 * 1000000 + rcan (z.toNat / 1000 % 1000) * 1000 + rcan (z.toNat % 1000) : Nat) : Int)) = .num ((z.toNat / 1000000 * 1000000 + rcan (z.toNat / 1000 % 1000) * 1000 + rcan (z.toNat % 1000) : Nat) : Int)
    show (Lean.Grind.CommRing.Expr.num _ : Ex) = .num _
    rw [Int.toNat_natCast, x1, x2, x3, rcan_rcan, rcan_rcan]
  | .neg e, u, hu => by
    show (Lean.Grind.CommRing.Expr.neg (ecan (ecan e)) : Ex) = .neg (ecan e)
    rw [ecan_ecan e 0 hu]
  | .pow e z, u, hu => by
    show (Lean.Grind.CommRing.Expr.pow (ecan (ecan e)) z : Ex) = .pow (ecan e) z
    rw [ecan_ecan e 2 hu.2]
  | .add a b, u, hu => by
    show (Lean.Grind.CommRing.Expr.add (ecan (ecan a)) (ecan (ecan b)) : Ex) = .add (ecan a) (ecan b)
    rw [ecan_ecan a 2 hu.2.1, ecan_ecan b 1 hu.2.2]
  | .sub a b, u, hu => by
    show (Lean.Grind.CommRing.Expr.sub (ecan (ecan a)) (ecan (ecan b)) : Ex) = .sub (ecan a) (ecan b)
    rw [ecan_ecan a 2 hu.2.1, ecan_ecan b 1 hu.2.2]
  | .mul a b, u, hu => by
    show (Lean.Grind.CommRing.Expr.mul (ecan (ecan a)) (ecan (ecan b)) : Ex) = .mul (ecan a) (ecan b)
    rw [ecan_ecan a 1 hu.2.1, ecan_ecan b 0 hu.2.2]
theorem tw_can {t : Tk} : tw (tcan t) = tw t := by
  unfold tcan
  by_cases e : t.1 = N 114 ∧ t.2.2 = N 0
  · rw [if_pos e]
    have e48 : ¬ t.1 = N 48 := by rw [e.1]; decide
    unfold tw
    show (if t.1 = N 48 then _ else if t.1 = N 114 then (if N 0 = N 0 then 1 else 2) else _) = _
    rw [if_neg e48, if_neg e48, if_pos e.1, if_pos e.1, if_pos rfl, if_pos e.2]
  · rw [if_neg e]
theorem wsum_can {T : List Tk} : wsum (T.map tcan) = wsum T := by
  unfold wsum
  rw [List.map_map]
  congr 1
  exact List.map_congr_left fun t _ => tw_can
/-- what is known of a formula some rows on -/
theorem low_facts (h : KK G) (h1 : lv 2 e) (h2 : nst e ≤ 4) (h3 : ecan e = e) (h4 : wsum (tks e) ≤ 39) : lv 2 (ecan (elow G n e)) ∧ nst (ecan (elow G n e)) ≤ 4 ∧ ecan (ecan (elow G n e)) = ecan (elow G n e) ∧ wsum (tks (ecan (elow G n e))) ≤ 39 ∧ (tks (ecan (elow G n e))).length = (tks e).length ∧ encE (ecan (elow G n e)) = (encE e).map (shp G n) ∧ tks (ecan (elow G n e)) = (tks e).map (lowT G n) := by
  obtain ⟨i1, i2⟩ := elow_ok h (n := n) e
  obtain ⟨j1, j2, j3⟩ := i1 2 h1
  obtain ⟨k1, k2⟩ := ecan_ok (elow G n e)
  obtain ⟨l1, l2⟩ := k1 2 j1
  have et : (tks e).map tcan = tks e := by
    rw [← ((ecan_ok e).1 2 h1).2, h3]
  refine ⟨l1, by rw [k2, i2]; exact h2, ecan_ecan _ 2 j1, ?_, ?_, enc_low h e 2 h1, ?_⟩
  · rw [l2, wsum_can, j2]
    exact Nat.le_trans (wsum_low h.kz _) h4
  · rw [l2, List.length_map, j2, List.length_map]
  · rw [l2, j2, List.map_map]
    have : (tks e).map (tcan ∘ lw G n) = ((tks e).map tcan).map (lowT G n) := by
      rw [List.map_map]
      exact List.map_congr_left fun t _ => lowT_can h.kz
    rw [this, et]
end LAY
