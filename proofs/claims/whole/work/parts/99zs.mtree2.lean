/-! THE REFERENCE: values; trees, worked out -/
section LAY
variable {μ μ' μ'' ν : jM} {S : List Nat} {M g h t s n w d D i j k x y a b c f q p H rt : Nat} {G : DG} {L A B : List (Int32 × Int32)} {v : Int32} {r : VT} {e e1 e2 : Ex}
/-- the next two taken -/
theorem one_take {x : Int32 × Int32} (h : CX G M g f S A (x :: B) μ) : FE M μ (jsetI μ M 32 (N (2 * (A.length + 1)))) ∧ CX G M g f S (A ++ [x]) B (jsetI μ M 32 (N (2 * (A.length + 1)))) ∧ jrv (jsetI μ M 32 (N (2 * (A.length + 1)))) M 34 = jrv μ M 34 ∧ jR (D + 1) 214 0 [.ref M, .retAddr 0, .retAddr 0, .retAddr 0] [] μ = (if x.1 = 0 then some (some (.int x.2), jsetI μ M 32 (N (2 * (A.length + 1)))) else if x.1 = 2 then (jC D 215 [.ref M, .int x.2] (jsetI μ M 32 (N (2 * (A.length + 1))))).bind fun p13 => jR (D + 1) 214 57 [.ref M, .int x.1, .int x.2, .retAddr 0] (p13.1.toList ++ []) p13.2 else if x.1 = 3 then (jC D 216 [.ref M, .int x.2] (jsetI μ M 32 (N (2 * (A.length + 1))))).bind fun p12 => jR (D + 1) 214 68 [.ref M, .int x.1, .int x.2, .retAddr 0] (p12.1.toList ++ []) p12.2 else if x.2 = 45 then (jC D 214 [.ref M] (jsetI μ M 32 (N (2 * (A.length + 1))))).bind fun p11 => jR (D + 1) 214 79 [.ref M, .int x.1, .int x.2, .retAddr 0] (p11.1.toList ++ []) p11.2 else (jC D 212 [.ref M] (jsetI μ M 32 (N (2 * (A.length + 1))))).bind fun p10 => jR (D + 1) 214 85 [.ref M, .int x.1, .int x.2, .retAddr 0] (p10.1.toList ++ []) p10.2) := by
  obtain ⟨hv, hr, hz, hp, hi⟩ := id h
  obtain ⟨g1, g2⟩ := hr.at
  have k13 := hv.1.k13
  have F0 : FE M μ (jsetI μ M 32 (N (2 * (A.length + 1)))) := FE.slot (Or.inl rfl)
  have x1 : N (2 * A.length) + 1 = N (2 * A.length + 1) := by rw [show (1 : Int32) = N 1 from rfl, N_add]
  have x2 : N (2 * A.length) + 2 = N (2 * (A.length + 1)) := by rw [show (2 : Int32) = N 2 from rfl, N_add]; congr 1
  refine ⟨F0, h.next F0 rfl ((ivj (by decide)).trans hz) (by simp) (by rw [List.length_append]; exact if_pos ⟨rfl, rfl⟩) hi.slot, rfl, ?_⟩
  rw [b214_0]
  have kX : jk (jsetI μ M 32 (N (2 * (A.length + 1)))) M = 13 := k13
  simp only [gI13, gR13, pI13, pR13, rv13, k13, hz, hp, hr.1, g1, g2, x1, x2, jfit0, and_true, if_true, decide_true, Option.bind_some, rf_some, kX]
  rw [if_pos (show N 0 = 0 from rfl)]
theorem jC214 : jC D 214 [.ref M] μ = jR D 214 0 [.ref M, .retAddr 0, .retAddr 0, .retAddr 0] [] μ := by
  rw [jC_run (by decide)]; rfl
theorem RO.fe {pos : Nat} (a : FE M μ μ') (e1 : jrv μ' M 34 = jrv μ M 34) (h : RO G M S r v pos μ' μ'') : RO G M S r v pos μ μ'' := ⟨a.trans h.1, h.2.1, h.2.2.1.trans e1, h.2.2.2⟩
theorem o_nat {z : Nat} : O0 G M g f H S (.natCast z) := by
  intro D μ A B hD h nd
  obtain ⟨D, rfl⟩ : ∃ D', D = D' + 1 := ⟨D - 1, by omega⟩
  have h : CX G M g f S A ((N 0, N z) :: B) μ := h
  obtain ⟨F, c, e34, st⟩ := one_take (D := D) h
  refine ⟨_, N z, ?_, F, c.2.2.1, e34, c.2.2.2.2, fun _ => ⟨rfl, ?_⟩⟩
  · rw [jC214, st, if_pos (show N 0 = 0 from rfl)]
  · exact if_pos ⟨rfl, rfl⟩
theorem o_var {i : Nat} (ha : AskR G M g H k) (hS : S.Nodup) (hS2 : ∀ s, s ∈ S → s < 24) (hk : S.length + k = 24) (hr : rK i) (hcan : rcan i = i) : O0 G M g f H S (.var i) := by
  intro D μ A B hD h nd
  have hD : H + 2 ≤ D := by have : H + 2 + 3 * 0 ≤ D := hD; omega
  obtain ⟨D, rfl⟩ : ∃ D', D = D' + 1 := ⟨D - 1, by omega⟩
  have h : CX G M g f S A ((N 3, N i) :: B) μ := h
  obtain ⟨F, c, e34, st⟩ := one_take (D := D) h
  have p1 : jiv (jsetI μ M 32 (N (2 * (A.length + 1)))) M 32 = N (2 * (A.length + 1)) := if_pos ⟨rfl, rfl⟩
  obtain ⟨μ', v, c1, c2, c3, c4, c5, c6, c7⟩ := r_refNow (D := D) (w7 := .null) ha (by omega) c.1 hS hS2 hk hr hcan c.2.2.1 c.2.2.2.2 nd
  refine ⟨μ', v, ?_, F.trans c2, c3, c6.trans e34, c7, fun q => ⟨c4 q, c5.trans p1⟩⟩
  rw [jC214, st, if_neg (show ¬ N 3 = 0 by decide), if_neg (show ¬ N 3 = 2 by decide), if_pos (show N 3 = 3 from rfl), c1]
  exact b214_68 ..
theorem o_num {z : Int} (ha : AskR G M g H k) (hS : S.Nodup) (hS2 : ∀ s, s ∈ S → s < 24) (hk : S.length + k = 24) (hl : lv 0 (.num z)) (hcan : ecan (.num z) = .num z) : O0 G M g f H S (.num z) := by
  intro D μ A B hD h nd
  have hD : H + 2 ≤ D := by have : H + 2 + 3 * 0 ≤ D := hD; omega
  obtain ⟨D, rfl⟩ : ∃ D', D = D' + 1 := ⟨D - 1, by omega⟩
  obtain ⟨l0, l1, l2, l3⟩ := hl
  have hz : z = ((z.toNat / 1000000 * 1000000 + rcan (z.toNat / 1000 % 1000) * 1000 + rcan (z.toNat % 1000) : Nat) : Int) := by
    have hcan : (Lean.Grind.CommRing.Expr.num ((z.toNat / 1000000 * 1000000 + rcan (z.toNat / 1000 % 1000) * 1000 + rcan (z.toNat % 1000) : Nat) : Int) : Ex) = .num z := hcan
    injection hcan with hcan
    exact hcan.symm
  have hzn : z.toNat = z.toNat / 1000000 * 1000000 + rcan (z.toNat / 1000 % 1000) * 1000 + rcan (z.toNat % 1000) := by
    have := congrArg Int.toNat hz
    rwa [Int.toNat_natCast] at this
  have q1 := rcan_lt (rK_lt l2)
  have q2 := rcan_lt (rK_lt l3)
  obtain ⟨y1, y2, y3⟩ := rcode (w := z.toNat / 1000000) q1 q2
  rw [← hzn] at y2 y3
  have h : CX G M g f S A ((N 2, N (z.toNat / 1000000)) :: ([(N 1, N 40), (N 3, N (z.toNat / 1000 % 1000)), (N 1, N 58), (N 3, N (z.toNat % 1000)), (N 1, N 41)] ++ B)) μ := h
  obtain ⟨F, c, e34, st⟩ := one_take (D := D) h
  have p1 : jiv (jsetI μ M 32 (N (2 * (A.length + 1)))) M 32 = N (2 * (A.length + 1)) := if_pos ⟨rfl, rfl⟩
  obtain ⟨μ', v, c1, c2, c3, c4, c5, c6⟩ := r_rangeNow (D := D) (kk := z.toNat) (i0 := A.length + 1) ha (by omega) c.1 c.2.1 hS hS2 hk l1 l2 l3 y2.symm y3.symm (by
    rw [List.getElem?_append_right (by simp), List.length_append]
    show ([(N 1, N 40), (N 3, N (z.toNat / 1000 % 1000)), (N 1, N 58), (N 3, N (z.toNat % 1000)), (N 1, N 41)] ++ B)[A.length + 1 + 1 - (A.length + 1)]? = _
    rw [show A.length + 1 + 1 - (A.length + 1) = 1 by omega]
    rfl) (by
    rw [List.getElem?_append_right (by simp), List.length_append]
    show ([(N 1, N 40), (N 3, N (z.toNat / 1000 % 1000)), (N 1, N 58), (N 3, N (z.toNat % 1000)), (N 1, N 41)] ++ B)[A.length + 1 + 3 - (A.length + 1)]? = _
    rw [show A.length + 1 + 3 - (A.length + 1) = 3 by omega]
    rfl) p1 c.2.2.1 c.2.2.2.2 nd
  refine ⟨μ', v, ?_, F.trans c2, c3, c4.trans e34, c5, fun q => ⟨(c6 q).1, (c6 q).2⟩⟩
  rw [jC214, st, if_neg (show ¬ N 2 = 0 by decide), if_pos (show N 2 = 2 from rfl), c1]
  exact b214_57 ..
theorem o_neg (ih : O0 G M g f H S e) : O0 G M g f H S (.neg e) := by
  intro D μ A B hD h nd
  have nd : ∀ s, s ∈ S → Nd G (s / 3, s % 3) (fun n => sq (evN G n e) fun x => some (N 0, -x)) := nd
  have hD : H + 2 + 3 * (nst e + 1) ≤ D := hD
  obtain ⟨D, rfl⟩ : ∃ D', D = D' + 1 := ⟨D - 1, by omega⟩
  have h : CX G M g f S A ((N 1, N 45) :: (encE e ++ B)) μ := h
  obtain ⟨F, c, e34, st⟩ := one_take (D := D) h
  obtain ⟨μ', v, c1, c2, c3, c4, c5, c6⟩ := ih D _ (A ++ [(N 1, N 45)]) B (by omega) c (fun s hs => nd_l (nd s hs))
  refine ⟨μ', -v, ?_, F.trans c2, ?_, c4.trans e34, c5, fun q => ?_⟩
  · rw [jC214, st, if_neg (show ¬ N 1 = 0 by decide), if_neg (show ¬ N 1 = 2 by decide), if_neg (show ¬ N 1 = 3 by decide), if_pos (show N 45 = 45 from rfl), c1]
    exact b214_79 ..
  · show _ = (sqt (tvE G e) fun x => (N 0, -x)).1
    by_cases z : (tvE G e).1 = N 0
    · rw [show sqt (tvE G e) (fun x => (N 0, -x)) = (N 0, -(tvE G e).2) from if_pos z, c3]; exact z
    · rw [show sqt (tvE G e) (fun x => (N 0, -x)) = ((tvE G e).1, N 0) from if_neg z]; exact c3
  · have q : (sqt (tvE G e) fun x => (N 0, -x)).1 = N 0 := q
    by_cases z : (tvE G e).1 = N 0
    · obtain ⟨z1, z2⟩ := c6 z
      refine ⟨?_, ?_⟩
      · show -v = (sqt (tvE G e) fun x => (N 0, -x)).2
        rw [show sqt (tvE G e) (fun x => (N 0, -x)) = (N 0, -(tvE G e).2) from if_pos z, z1]
      · rw [z2, List.length_append]
        show N (2 * (A.length + 1 + _)) = N (2 * (A.length + ((encE e).length + 1)))
        congr 1; omega
    · rw [show sqt (tvE G e) (fun x => (N 0, -x)) = ((tvE G e).1, N 0) from if_neg z] at q
      exact absurd q z
/-- a factor alone is a product -/
theorem p_of_o (ih : O0 G M g f H S e) : P0 G M g f H S e := by
  intro D μ A B hD h nd
  obtain ⟨D, rfl⟩ : ∃ D', D = D' + 1 := ⟨D - 1, by omega⟩
  obtain ⟨μ', v, c1, c2⟩ := ih D μ A B (by omega) h nd
  refine ⟨μ', v, ?_, c2⟩
  rw [b213_0]
  simp only [gI13, gR13, pI13, pR13, rv13, h.1.1.k13, c1, if_true, Option.bind_some]
  show jR (D + 1) 213 4 [.ref M, .retAddr 0] [.int v] μ' = _
  rw [b213_4]
/-- what comes behind a tree -/
theorem RO.cx {pos : Nat} {C : List (Int32 × Int32)} (h : CX G M g f S A (C ++ B) μ) (c : RO G M S r v (A.length + C.length) μ μ') (hz : r.1 = N 0) : CX G M g f S (A ++ C) B μ' := by
  obtain ⟨c1, c2, c3, c4, c5⟩ := c
  exact h.next c1 c3 (c2.trans hz) (by simp) (by rw [List.length_append]; exact (c5 hz).2) c4
theorem p1_of_p (ih : P0 G M g f H S e) : P1 G M g f H S e := by
  intro D μ A B hD h nd hB
  obtain ⟨μ', v, c1, c2⟩ := ih D μ A B hD h nd
  obtain ⟨D, rfl⟩ : ∃ D', D = D' + 1 := ⟨D - 1, by omega⟩
  have st : jC (D + 1) 213 [.ref M] μ = jR (D + 1) 213 5 [.ref M, .int v] [] μ' := by
    rw [jC_run (by decide)]; exact c1
  have hv := c2.1.ev h.1
  refine ⟨μ', v, ?_, c2⟩
  have i0 : jC D 217 [.ref M, .int (N 42)] μ' = some (some (.int (N 0)), μ') := by
    by_cases hz : (tvE G e).1 = N 0
    · have cx := RO.cx (pos := 0) h c2 hz
      rw [r_isNow hv.1 cx.2.1 cx.2.2.2.1 cx.2.2.1, pN_neg hB]
    · exact r_isNow0 hv.1 (by rw [c2.2.1]; exact hz)
  have i0 : jC D 217 [.ref M, .int 42] μ' = _ := i0
  rw [st, b213_5]
  simp only [gI13, gR13, pI13, pR13, rv13, hv.1.k13, i0, if_true, Option.bind_some]
  show jR (D + 1) 213 11 [.ref M, .int v] [.int (N 0)] μ' = _
  rw [b213_11, if_pos (show N 0 = 0 from rfl)]
/-- a place two on -/
theorem sign_take {x : Int32 × Int32} (h : CX G M g f S A (x :: B) μ) : FE M μ (jsetI μ M 32 (N (2 * (A.length + 1)))) ∧ CX G M g f S (A ++ [x]) B (jsetI μ M 32 (N (2 * (A.length + 1)))) ∧ jrv (jsetI μ M 32 (N (2 * (A.length + 1)))) M 34 = jrv μ M 34 ∧ N (2 * A.length) + 2 = N (2 * (A.length + 1)) := by
  have F0 : FE M μ (jsetI μ M 32 (N (2 * (A.length + 1)))) := FE.slot (Or.inl rfl)
  exact ⟨F0, h.next F0 rfl ((ivj (by decide)).trans h.2.2.1) (by simp) (by rw [List.length_append]; exact if_pos ⟨rfl, rfl⟩) h.2.2.2.2.slot, rfl, by rw [show (2 : Int32) = N 2 from rfl, N_add]; congr 1⟩
theorem RO.bin {op : Int32 → Int32 → Int32} {r1 r2 : VT} {v1 v2 : Int32} {p1 pos : Nat} (F1 : FE M μ μ') (e1 : r1.1 = N 0) (hv1 : v1 = r1.2) (e34 : jrv μ' M 34 = jrv μ M 34) (c : RO G M S r2 v2 pos μ' μ'') : RO G M S (sqt r1 fun x => sqt r2 fun y => (N 0, op x y)) (op v1 v2) pos μ μ'' := by
  obtain ⟨c1, c2, c3, c4, c5⟩ := c
  have es : (sqt r1 fun x => sqt r2 fun y => (N 0, op x y)) = sqt r2 fun y => (N 0, op r1.2 y) := if_pos e1
  refine ⟨F1.trans c1, ?_, c3.trans e34, c4, fun q => ?_⟩
  · rw [es]
    by_cases z : r2.1 = N 0
    · rw [show (sqt r2 fun y => (N 0, op r1.2 y)) = (N 0, op r1.2 r2.2) from if_pos z, c2]; exact z
    · rw [show (sqt r2 fun y => (N 0, op r1.2 y)) = (r2.1, N 0) from if_neg z]; exact c2
  · rw [es] at q ⊢
    by_cases z : r2.1 = N 0
    · obtain ⟨z1, z2⟩ := c5 z
      rw [show (sqt r2 fun y => (N 0, op r1.2 y)) = (N 0, op r1.2 r2.2) from if_pos z]
      exact ⟨by rw [hv1, z1], z2⟩
    · rw [show (sqt r2 fun y => (N 0, op r1.2 y)) = (r2.1, N 0) from if_neg z] at q
      exact absurd q z
/-- wrong on the left: wrong -/
theorem RO.left {g2 : Int32 → VT} {v1 v2 : Int32} {p1 pos : Nat} (c : RO G M S r v1 p1 μ μ') (e1 : ¬ r.1 = N 0) : RO G M S (sqt r g2) v2 pos μ μ' := by
  obtain ⟨c1, c2, c3, c4, c5⟩ := c
  have es : sqt r g2 = (r.1, N 0) := if_neg e1
  rw [es]
  exact ⟨c1, c2, c3, c4, fun q => absurd q e1⟩
theorem p_mul (ih1 : P0 G M g f H S e1) (ih2 : O0 G M g f H S e2) : P0 G M g f H S (.mul e1 e2) := by
  intro D μ A B hD h nd
  have hD : H + 3 + 3 * max (nst e1) (nst e2) ≤ D := hD
  have h : CX G M g f S A ((encE e1 ++ (N 1, N 42) :: encE e2) ++ B) μ := h
  rw [List.append_assoc] at h
  have nd : ∀ s, s ∈ S → Nd G (s / 3, s % 3) (fun n => sq (evN G n e1) fun x => sq (evN G n e2) fun y => some (N 0, x * y)) := nd
  have ndl : NDe G S e1 := fun s hs => nd_l (nd s hs)
  obtain ⟨μ1, v1, c1, c2⟩ := ih1 D μ A ((N 1, N 42) :: encE e2 ++ B) (by omega) h ndl
  have hv1 := c2.1.ev h.1
  by_cases hz : (tvE G e1).1 = N 0
  · have cx := RO.cx (pos := 0) h c2 hz
    have cx : CX G M g f S (A ++ encE e1) ((N 1, N 42) :: (encE e2 ++ B)) μ1 := cx
    obtain ⟨F2, cx2, e34, x2⟩ := sign_take cx
    obtain ⟨D, rfl⟩ : ∃ D', D = D' + 1 := ⟨D - 1, by omega⟩
    have ndr : NDe G S e2 := fun s hs => nd_l (nd_r (nd s hs) (lim_E e1) hz)
    obtain ⟨μ2, v2, d1, d2⟩ := ih2 D _ _ B (by omega) cx2 ndr
    have is : jC D 217 [.ref M, .int (N 42)] μ1 = some (some (.int (N 1)), μ1) := by
      rw [r_isNow hv1.1 cx.2.1 cx.2.2.2.1 cx.2.2.1, pN_pos (show ((N 1, N 42) :: (encE e2 ++ B)).head? = some (N 1, N 42) from rfl)]
    have is : jC D 217 [.ref M, .int 42] μ1 = _ := is
    refine ⟨μ2, v1 * v2, ?_, ?_⟩
    · rw [c1, b213_5]
      simp only [gI13, gR13, pI13, pR13, rv13, hv1.1.k13, is, if_true, Option.bind_some]
      show jR (D + 1) 213 11 [.ref M, .int v1] [.int (N 1)] μ1 = _
      rw [b213_11, if_neg (show ¬ N 1 = 0 by decide)]
      have kX : jk (jsetI μ1 M 32 (N (2 * ((A ++ encE e1).length + 1)))) M = 13 := hv1.1.k13
      simp only [gI13, gR13, pI13, pR13, rv13, hv1.1.k13, cx.2.2.2.1, x2, jfit0, and_true, if_true, Option.bind_some, kX, d1]
      show jR (D + 1) 213 29 [.ref M, .int v1] [.int v2, .int v1] μ2 = _
      rw [b213_29]
    · have := RO.bin (op := fun x y => x * y) (r1 := tvE G e1) (p1 := 0) (c2.1.trans F2) hz (c2.2.2.2.2 hz).1 (e34.trans c2.2.2.1) d2
      have el : (A ++ encE e1 ++ [(N 1, N 42)]).length + (encE e2).length = A.length + (encE (.mul e1 e2)).length := by
        show _ = A.length + (encE e1 ++ (N 1, N 42) :: encE e2).length
        simp only [List.length_append, List.length_cons, List.length_nil]; omega
      rw [el] at this
      exact this
  · exact ⟨μ1, v1, c1, RO.left c2 hz⟩
/-- a product alone is a sum -/
theorem s_of_p (ih : P1 G M g f H S e) : S0 G M g f H S e := by
  intro D μ A B hD h nd hB
  obtain ⟨D, rfl⟩ : ∃ D', D = D' + 1 := ⟨D - 1, by omega⟩
  obtain ⟨μ', v, c1, c2⟩ := ih D μ A B (by omega) h nd hB
  refine ⟨μ', v, .retAddr 0, .retAddr 0, ?_, c2⟩
  rw [b212_0]
  simp only [gI13, gR13, pI13, pR13, rv13, h.1.1.k13, c1, if_true, Option.bind_some]
  show jR (D + 1) 212 4 [.ref M, .retAddr 0, .retAddr 0, .retAddr 0] [.int v] μ' = _
  rw [b212_4]
theorem s1_of_s (ih : S0 G M g f H S e) : S1 G M g f H S e := by
  intro D μ A B hD h nd hB hB2 hB3
  obtain ⟨μ', v, u2, u3, c1, c2⟩ := ih D μ A B hD h nd hB
  obtain ⟨D, rfl⟩ : ∃ D', D = D' + 1 := ⟨D - 1, by omega⟩
  have st : jC (D + 1) 212 [.ref M] μ = jR (D + 1) 212 5 [.ref M, .int v, u2, u3] [] μ' := by
    rw [jC_run (by decide)]; exact c1
  have hv := c2.1.ev h.1
  refine ⟨μ', v, ?_, c2⟩
  have i0 : ∀ ch, B.head? ≠ some (N 1, N ch) → jC D 217 [.ref M, .int (N ch)] μ' = some (some (.int (N 0)), μ') := by
    intro ch hch
    by_cases hz : (tvE G e).1 = N 0
    · have cx := RO.cx (pos := 0) h c2 hz
      rw [r_isNow hv.1 cx.2.1 cx.2.2.2.1 cx.2.2.1, pN_neg hch]
    · exact r_isNow0 hv.1 (by rw [c2.2.1]; exact hz)
  have i1 : jC D 217 [.ref M, .int 43] μ' = _ := i0 43 hB2
  have i2 : jC D 217 [.ref M, .int 45] μ' = _ := i0 45 hB3
  rw [st, b212_5]
  simp only [gI13, gR13, pI13, pR13, rv13, hv.1.k13, i1, if_true, Option.bind_some]
  show jR (D + 1) 212 11 [.ref M, .int v, u2, u3] [.int (N 0)] μ' = _
  rw [b212_11, if_pos (show N 0 = 0 from rfl)]
  simp only [gI13, gR13, pI13, pR13, rv13, hv.1.k13, i2, if_true, Option.bind_some]
  show jR (D + 1) 212 20 [.ref M, .int v, u2, u3] [.int (N 0)] μ' = _
  rw [b212_20, if_pos (show N 0 = 0 from rfl)]
theorem o_pow {z : Nat} (ih : S1 G M g f H S e) : O0 G M g f H S (.pow e z) := by
  intro D μ A B hD h nd
  have hD : H + 2 + 3 * (nst e + 1) ≤ D := hD
  obtain ⟨D, rfl⟩ : ∃ D', D = D' + 1 := ⟨D - 1, by omega⟩
  have h : CX G M g f S A ((N 1, N 40) :: (encE e ++ [(N 1, N 41)] ++ B)) μ := h
  rw [List.append_assoc] at h
  obtain ⟨F, c, e34, st⟩ := one_take (D := D) h
  have ne : ∀ ch : Nat, ch ≠ 41 → ch < 1000 → ([(N 1, N 41)] ++ B).head? ≠ some (N 1, N ch) := by
    intro ch hne hlt q
    have q : some (N 1, N 41) = some (N 1, N ch) := q
    have q := congrArg Prod.snd (Option.some.inj q)
    have q : N 41 = N ch := q
    rw [N_inj (by decide) (by omega)] at q
    exact hne q.symm
  obtain ⟨μ', v, c1, c2, c3, c4, c5, c6⟩ := ih D _ (A ++ [(N 1, N 40)]) ([(N 1, N 41)] ++ B) (by omega) c nd (ne 42 (by decide) (by decide)) (ne 43 (by decide) (by decide)) (ne 45 (by decide) (by decide))
  have hv := (F.trans c2).ev h.1
  have F2 : FE M μ' (jsetI μ' M 32 (jiv μ' M 32 + 2)) := FE.slot (Or.inl rfl)
  refine ⟨jsetI μ' M 32 (jiv μ' M 32 + 2), v, ?_, (F.trans c2).trans F2, (ivj (by decide)).trans c3, c4.trans e34, c5.slot, fun q => ⟨(c6 q).1, ?_⟩⟩
  · rw [jC214, st, if_neg (show ¬ N 1 = 0 by decide), if_neg (show ¬ N 1 = 2 by decide), if_neg (show ¬ N 1 = 3 by decide), if_neg (show ¬ N 40 = 45 by decide), c1]
    show jR (D + 1) 214 85 [.ref M, .int (N 1), .int (N 40), .retAddr 0] [.int v] μ' = _
    rw [b214_85]
    simp only [gI13, gR13, pI13, pR13, rv13, hv.1.k13, jfit0, and_true, if_true, Option.bind_some]
  · refine Eq.trans (if_pos ⟨rfl, rfl⟩) ?_
    rw [(c6 q).2, show (2 : Int32) = N 2 from rfl, N_add, List.length_append]
    show N (2 * (A.length + 1 + (encE e).length) + 2) = N (2 * (A.length + ((N 1, N 40) :: (encE e ++ [(N 1, N 41)])).length))
    simp only [List.length_cons, List.length_append, List.length_nil]
    congr 1; omega
end LAY
