/-! THE REFERENCE: values; sums, all trees, cells -/
section LAY
variable {μ μ' μ'' ν : jM} {S : List Nat} {M g h t s n w d D i j k x y a b c f q p H rt : Nat} {G : DG} {L A B : List (Int32 × Int32)} {v : Int32} {r : VT} {e e1 e2 : Ex}
theorem s_add (ih1 : S0 G M g f H S e1) (ih2 : P1 G M g f H S e2) : S0 G M g f H S (.add e1 e2) := by
  intro D μ A B hD h nd hB
  have hD : H + 4 + 3 * max (nst e1) (nst e2) ≤ D := hD
  have h : CX G M g f S A ((encE e1 ++ (N 1, N 43) :: encE e2) ++ B) μ := h
  rw [List.append_assoc] at h
  have nd : ∀ s, s ∈ S → Nd G (s / 3, s % 3) (fun n => sq (evN G n e1) fun x => sq (evN G n e2) fun y => some (N 0, x + y)) := nd
  have ndl : NDe G S e1 := fun s hs => nd_l (nd s hs)
  obtain ⟨μ1, v1, u2, u3, c1, c2⟩ := ih1 D μ A ((N 1, N 43) :: encE e2 ++ B) (by omega) h ndl (fun q => absurd (congrArg Prod.snd (Option.some.inj (show some (N 1, N 43) = some (N 1, N 42) from q))) (by decide))
  have hv1 := c2.1.ev h.1
  by_cases hz : (tvE G e1).1 = N 0
  · have cx := RO.cx (pos := 0) h c2 hz
    have cx : CX G M g f S (A ++ encE e1) ((N 1, N 43) :: (encE e2 ++ B)) μ1 := cx
    obtain ⟨F2, cx2, e34, x2⟩ := sign_take cx
    obtain ⟨D, rfl⟩ : ∃ D', D = D' + 1 := ⟨D - 1, by omega⟩
    have ndr : NDe G S e2 := fun s hs => nd_l (nd_r (nd s hs) (lim_E e1) hz)
    obtain ⟨μ2, v2, d1, d2⟩ := ih2 D _ _ B (by omega) cx2 ndr hB
    have is : jC D 217 [.ref M, .int (N 43)] μ1 = some (some (.int (N 1)), μ1) := by
      rw [r_isNow hv1.1 cx.2.1 cx.2.2.2.1 cx.2.2.1, pN_pos (show ((N 1, N 43) :: (encE e2 ++ B)).head? = some (N 1, N 43) from rfl)]
    have is : jC D 217 [.ref M, .int 43] μ1 = _ := is
    refine ⟨μ2, v1 + v2, .int (N 1), .int v2, ?_, ?_⟩
    · rw [c1, b212_5]
      simp only [gI13, gR13, pI13, pR13, rv13, hv1.1.k13, is, if_true, Option.bind_some]
      show jR (D + 1) 212 11 [.ref M, .int v1, u2, u3] [.int (N 1)] μ1 = _
      rw [b212_11, if_neg (show ¬ N 1 = 0 by decide), b212_23]
      have kX : jk (jsetI μ1 M 32 (N (2 * ((A ++ encE e1).length + 1)))) M = 13 := hv1.1.k13
      simp only [gI13, gR13, pI13, pR13, rv13, hv1.1.k13, is, if_true, Option.bind_some]
      show jR (D + 1) 212 29 [.ref M, .int v1, u2, u3] [.int (N 1)] μ1 = _
      rw [b212_29]
      simp only [gI13, gR13, pI13, pR13, rv13, hv1.1.k13, cx.2.2.2.1, x2, jfit0, and_true, if_true, Option.bind_some, kX, d1]
      show jR (D + 1) 212 44 [.ref M, .int v1, .int (N 1), u3] [.int v2] μ2 = _
      rw [b212_44, if_neg (show ¬ N 1 = 0 by decide), b212_58]
    · have := RO.bin (op := fun x y => x + y) (r1 := tvE G e1) (p1 := 0) (c2.1.trans F2) hz (c2.2.2.2.2 hz).1 (e34.trans c2.2.2.1) d2
      have el : (A ++ encE e1 ++ [(N 1, N 43)]).length + (encE e2).length = A.length + (encE (.add e1 e2)).length := by
        show _ = A.length + (encE e1 ++ (N 1, N 43) :: encE e2).length
        simp only [List.length_append, List.length_cons, List.length_nil]; omega
      rw [el] at this
      exact this
  · exact ⟨μ1, v1, u2, u3, c1, RO.left c2 hz⟩
theorem s_sub (ih1 : S0 G M g f H S e1) (ih2 : P1 G M g f H S e2) : S0 G M g f H S (.sub e1 e2) := by
  intro D μ A B hD h nd hB
  have hD : H + 4 + 3 * max (nst e1) (nst e2) ≤ D := hD
  have h : CX G M g f S A ((encE e1 ++ (N 1, N 45) :: encE e2) ++ B) μ := h
  rw [List.append_assoc] at h
  have nd : ∀ s, s ∈ S → Nd G (s / 3, s % 3) (fun n => sq (evN G n e1) fun x => sq (evN G n e2) fun y => some (N 0, x - y)) := nd
  have ndl : NDe G S e1 := fun s hs => nd_l (nd s hs)
  obtain ⟨μ1, v1, u2, u3, c1, c2⟩ := ih1 D μ A ((N 1, N 45) :: encE e2 ++ B) (by omega) h ndl (fun q => absurd (congrArg Prod.snd (Option.some.inj (show some (N 1, N 45) = some (N 1, N 42) from q))) (by decide))
  have hv1 := c2.1.ev h.1
  by_cases hz : (tvE G e1).1 = N 0
  · have cx := RO.cx (pos := 0) h c2 hz
    have cx : CX G M g f S (A ++ encE e1) ((N 1, N 45) :: (encE e2 ++ B)) μ1 := cx
    obtain ⟨F2, cx2, e34, x2⟩ := sign_take cx
    obtain ⟨D, rfl⟩ : ∃ D', D = D' + 1 := ⟨D - 1, by omega⟩
    have ndr : NDe G S e2 := fun s hs => nd_l (nd_r (nd s hs) (lim_E e1) hz)
    obtain ⟨μ2, v2, d1, d2⟩ := ih2 D _ _ B (by omega) cx2 ndr hB
    have is : jC D 217 [.ref M, .int (N 45)] μ1 = some (some (.int (N 1)), μ1) := by
      rw [r_isNow hv1.1 cx.2.1 cx.2.2.2.1 cx.2.2.1, pN_pos (show ((N 1, N 45) :: (encE e2 ++ B)).head? = some (N 1, N 45) from rfl)]
    have is0 : jC D 217 [.ref M, .int (N 43)] μ1 = some (some (.int (N 0)), μ1) := by
      rw [r_isNow hv1.1 cx.2.1 cx.2.2.2.1 cx.2.2.1, pN_neg (show ¬ ((N 1, N 45) :: (encE e2 ++ B)).head? = some (N 1, N 43) from fun q => absurd (congrArg Prod.snd (Option.some.inj (show some (N 1, N 45) = some (N 1, N 43) from q))) (by decide))]
    have is : jC D 217 [.ref M, .int 45] μ1 = _ := is
    have is0 : jC D 217 [.ref M, .int 43] μ1 = _ := is0
    refine ⟨μ2, v1 - v2, .int (N 0), .int v2, ?_, ?_⟩
    · rw [c1, b212_5]
      simp only [gI13, gR13, pI13, pR13, rv13, hv1.1.k13, is0, if_true, Option.bind_some]
      show jR (D + 1) 212 11 [.ref M, .int v1, u2, u3] [.int (N 0)] μ1 = _
      rw [b212_11, if_pos (show N 0 = 0 from rfl)]
      simp only [gI13, gR13, pI13, pR13, rv13, hv1.1.k13, is, if_true, Option.bind_some]
      show jR (D + 1) 212 20 [.ref M, .int v1, u2, u3] [.int (N 1)] μ1 = _
      rw [b212_20, if_neg (show ¬ N 1 = 0 by decide), b212_23]
      have kX : jk (jsetI μ1 M 32 (N (2 * ((A ++ encE e1).length + 1)))) M = 13 := hv1.1.k13
      simp only [gI13, gR13, pI13, pR13, rv13, hv1.1.k13, is0, if_true, Option.bind_some]
      show jR (D + 1) 212 29 [.ref M, .int v1, u2, u3] [.int (N 0)] μ1 = _
      rw [b212_29]
      simp only [gI13, gR13, pI13, pR13, rv13, hv1.1.k13, cx.2.2.2.1, x2, jfit0, and_true, if_true, Option.bind_some, kX, d1]
      show jR (D + 1) 212 44 [.ref M, .int v1, .int (N 0), u3] [.int v2] μ2 = _
      rw [b212_44, if_pos (show N 0 = 0 from rfl), b212_58]
    · have := RO.bin (op := fun x y => x - y) (r1 := tvE G e1) (p1 := 0) (c2.1.trans F2) hz (c2.2.2.2.2 hz).1 (e34.trans c2.2.2.1) d2
      have el : (A ++ encE e1 ++ [(N 1, N 45)]).length + (encE e2).length = A.length + (encE (.sub e1 e2)).length := by
        show _ = A.length + (encE e1 ++ (N 1, N 45) :: encE e2).length
        simp only [List.length_append, List.length_cons, List.length_nil]; omega
      rw [el] at this
      exact this
  · exact ⟨μ1, v1, u2, u3, c1, RO.left c2 hz⟩
/-- all trees -/
theorem tree_all (ha : AskR G M g H k) (hS : S.Nodup) (hS2 : ∀ s, s ∈ S → s < 24) (hk : S.length + k = 24) : ∀ e : Ex, ecan e = e → (lv 0 e → O0 G M g f H S e) ∧ (lv 1 e → P0 G M g f H S e) ∧ (lv 2 e → S0 G M g f H S e) := by
  have of : ∀ e : Ex, O0 G M g f H S e → (lv 0 e → O0 G M g f H S e) ∧ (lv 1 e → P0 G M g f H S e) ∧ (lv 2 e → S0 G M g f H S e) := fun e h => ⟨fun _ => h, fun _ => p_of_o h, fun _ => s_of_p (p1_of_p (p_of_o h))⟩
  intro e
  induction e with
  | natCast z => intro _; exact of _ o_nat
  | intCast z => intro _; exact ⟨fun h => h.elim, fun h => h.elim, fun h => h.elim⟩
  | var i =>
    intro hc
    have hc : (Lean.Grind.CommRing.Expr.var (rcan i) : Ex) = .var i := hc
    injection hc with hc
    have z : rK i → _ := fun h => of _ (o_var (f := f) ha hS hS2 hk h hc)
    exact ⟨fun h => (z h).1 h, fun h => (z h).2.1 h, fun h => (z h).2.2 h⟩
  | num z =>
    intro hc
    have zz : lv 0 (.num z) → _ := fun h => of _ (o_num (f := f) ha hS hS2 hk h hc)
    exact ⟨fun h => (zz h).1 h, fun h => (zz h).2.1 h, fun h => (zz h).2.2 h⟩
  | neg a ih =>
    intro hc
    have hc : (Lean.Grind.CommRing.Expr.neg (ecan a) : Ex) = .neg a := hc
    injection hc with hc
    have z : lv 0 a → _ := fun h => of _ (o_neg ((ih hc).1 h))
    exact ⟨fun h => (z h).1 h, fun h => (z h).2.1 h, fun h => (z h).2.2 h⟩
  | pow a m ih =>
    intro hc
    have hc : (Lean.Grind.CommRing.Expr.pow (ecan a) m : Ex) = .pow a m := hc
    injection hc with hc
    have z : (m = 0 ∧ lv 2 a) → _ := fun h => of _ (o_pow (z := m) (s1_of_s ((ih hc).2.2 h.2)))
    exact ⟨fun h => (z h).1 h, fun h => (z h).2.1 h, fun h => (z h).2.2 h⟩
  | add a b ih1 ih2 =>
    intro hc
    have hc : (Lean.Grind.CommRing.Expr.add (ecan a) (ecan b) : Ex) = .add a b := hc
    injection hc with hc1 hc2
    exact ⟨fun h => absurd h.1 (by decide), fun h => absurd h.1 (by decide), fun h => s_add ((ih1 hc1).2.2 h.2.1) (p1_of_p ((ih2 hc2).2.1 h.2.2))⟩
  | sub a b ih1 ih2 =>
    intro hc
    have hc : (Lean.Grind.CommRing.Expr.sub (ecan a) (ecan b) : Ex) = .sub a b := hc
    injection hc with hc1 hc2
    exact ⟨fun h => absurd h.1 (by decide), fun h => absurd h.1 (by decide), fun h => s_sub ((ih1 hc1).2.2 h.2.1) (p1_of_p ((ih2 hc2).2.1 h.2.2))⟩
  | mul a b ih1 ih2 =>
    intro hc
    have hc : (Lean.Grind.CommRing.Expr.mul (ecan a) (ecan b) : Ex) = .mul a b := hc
    injection hc with hc1 hc2
    have z : lv 1 a → lv 0 b → P0 G M g f H S (.mul a b) := fun h1 h2 => p_mul ((ih1 hc1).2.1 h1) ((ih2 hc2).1 h2)
    exact ⟨fun h => absurd h.1 (by decide), fun h => z h.2.1 h.2.2, fun h => s_of_p (p1_of_p (z h.2.1 h.2.2))⟩
end LAY
