/-! THE REFERENCE: values; trees -/
/-- behind a tree -/
def RO (G : DG) (M : Nat) (S : List Nat) (r : VT) (v : Int32) (pos : Nat) (μ μ' : jM) : Prop := FE M μ μ' ∧ jiv μ' M 33 = r.1 ∧ jrv μ' M 34 = jrv μ M 34 ∧ EI G μ' M S ∧ (r.1 = N 0 → v = r.2 ∧ jiv μ' M 32 = N (2 * pos))
/-- ahead of a tree -/
def CX (G : DG) (M g f : Nat) (S : List Nat) (A B : List (Int32 × Int32)) (μ : jM) : Prop := EV μ M g G ∧ RDg μ M f (A ++ B) ∧ jiv μ M 33 = N 0 ∧ jiv μ M 32 = N (2 * A.length) ∧ EI G μ M S
def NDe (G : DG) (S : List Nat) (e : Ex) : Prop := ∀ s, s ∈ S → Nd G (s / 3, s % 3) (fun n => evN G n e)
def O0 (G : DG) (M g f H : Nat) (S : List Nat) (e : Ex) : Prop := ∀ (D : Nat) (μ : jM) (A B : List (Int32 × Int32)), H + 2 + 3 * nst e ≤ D → CX G M g f S A (encE e ++ B) μ → NDe G S e → ∃ μ' v, jC D 214 [.ref M] μ = some (some (.int v), μ') ∧ RO G M S (tvE G e) v (A.length + (encE e).length) μ μ'
def P0 (G : DG) (M g f H : Nat) (S : List Nat) (e : Ex) : Prop := ∀ (D : Nat) (μ : jM) (A B : List (Int32 × Int32)), H + 3 + 3 * nst e ≤ D → CX G M g f S A (encE e ++ B) μ → NDe G S e → ∃ μ' v, jR D 213 0 [.ref M, .retAddr 0] [] μ = jR D 213 5 [.ref M, .int v] [] μ' ∧ RO G M S (tvE G e) v (A.length + (encE e).length) μ μ'
def P1 (G : DG) (M g f H : Nat) (S : List Nat) (e : Ex) : Prop := ∀ (D : Nat) (μ : jM) (A B : List (Int32 × Int32)), H + 3 + 3 * nst e ≤ D → CX G M g f S A (encE e ++ B) μ → NDe G S e → B.head? ≠ some (N 1, N 42) → ∃ μ' v, jC D 213 [.ref M] μ = some (some (.int v), μ') ∧ RO G M S (tvE G e) v (A.length + (encE e).length) μ μ'
def S0 (G : DG) (M g f H : Nat) (S : List Nat) (e : Ex) : Prop := ∀ (D : Nat) (μ : jM) (A B : List (Int32 × Int32)), H + 4 + 3 * nst e ≤ D → CX G M g f S A (encE e ++ B) μ → NDe G S e → B.head? ≠ some (N 1, N 42) → ∃ μ' v u2 u3, jR D 212 0 [.ref M, .retAddr 0, .retAddr 0, .retAddr 0] [] μ = jR D 212 5 [.ref M, .int v, u2, u3] [] μ' ∧ RO G M S (tvE G e) v (A.length + (encE e).length) μ μ'
def S1 (G : DG) (M g f H : Nat) (S : List Nat) (e : Ex) : Prop := ∀ (D : Nat) (μ : jM) (A B : List (Int32 × Int32)), H + 4 + 3 * nst e ≤ D → CX G M g f S A (encE e ++ B) μ → NDe G S e → B.head? ≠ some (N 1, N 42) → B.head? ≠ some (N 1, N 43) → B.head? ≠ some (N 1, N 45) → ∃ μ' v, jC D 212 [.ref M] μ = some (some (.int v), μ') ∧ RO G M S (tvE G e) v (A.length + (encE e).length) μ μ'
section LAY
variable {μ μ' μ'' ν : jM} {S : List Nat} {M g h t s n w d D i j k x y a b c f q p H rt : Nat} {G : DG} {L A B : List (Int32 × Int32)} {v : Int32} {r : VT} {e e1 e2 : Ex}
theorem CX.next (h : CX G M g f S A B μ) (F : FE M μ μ') (e1 : jrv μ' M 34 = jrv μ M 34) (e2 : jiv μ' M 33 = N 0) {A' B' : List (Int32 × Int32)} (e3 : A' ++ B' = A ++ B) (e4 : jiv μ' M 32 = N (2 * A'.length)) (e5 : EI G μ' M S) : CX G M g f S A' B' μ' := ⟨F.ev h.1, by rw [e3]; exact h.2.1.fe F e1, e2, e4, e5⟩
theorem refO {i : Nat} (hcan : rcan i = i) : refC G i = (if i = 0 then none else lfind (N (i / 8)) G).map fun p => (p, i / 2 % 4) := by
  unfold refC
  by_cases e0 : i = 0
  · subst e0; rfl
  · have h8 : ¬ i / 8 = 0 := by
      intro q
      unfold rcan at hcan
      rw [if_pos q] at hcan
      omega
    rw [if_neg h8, if_neg e0]
theorem r_rangeNow {kk i0 : Nat} (ha : AskR G M g H k) (hD : H + 1 ≤ D) (hv : EV μ M g G) (hr : RDg μ M f L) (hS : S.Nodup) (hS2 : ∀ s, s ∈ S → s < 24) (hk : S.length + k = 24) (hwd : kk / 1000000 < 4) (hr1 : rK (kk / 1000 % 1000)) (hr2 : rK (kk % 1000)) (hc1 : rcan (kk / 1000 % 1000) = kk / 1000 % 1000) (hc2 : rcan (kk % 1000) = kk % 1000) (hL1 : L[i0 + 1]? = some (N 3, N (kk / 1000 % 1000))) (hL2 : L[i0 + 3]? = some (N 3, N (kk % 1000))) (hp : jiv μ M 32 = N (2 * i0)) (hw : jiv μ M 33 = N 0) (hi : EI G μ M S) (nd : ∀ s, s ∈ S → Nd G (s / 3, s % 3) (fun n => evR G (evC G n) kk)) : ∃ μ' v, jC D 215 [.ref M, .int (N (kk / 1000000))] μ = some (some (.int v), μ') ∧ RO G M S (tR G kk) v (i0 + 5) μ μ' := by
  obtain ⟨D, rfl⟩ : ∃ D', D = D' + 1 := ⟨D - 1, by omega⟩
  have hq := hv.1
  have k13 := hq.k13
  have g1 := (hr.get hL1).2
  have g2 := (hr.get hL2).2
  have g1 : jaI μ (.ref f) (N (2 * (i0 + 1) + 1)) = some (N (kk / 1000 % 1000)) := g1
  have g2 : jaI μ (.ref f) (N (2 * (i0 + 3) + 1)) = some (N (kk % 1000)) := g2
  have x1 : N (2 * i0) + 3 = N (2 * (i0 + 1) + 1) := by rw [show (3 : Int32) = N 3 from rfl, N_add]; congr 1
  have x2 : N (2 * i0) + 7 = N (2 * (i0 + 3) + 1) := by rw [show (7 : Int32) = N 7 from rfl, N_add]; congr 1
  have x3 : N (2 * i0) + 10 = N (2 * (i0 + 5)) := by rw [show (10 : Int32) = N 10 from rfl, N_add]; congr 1
  generalize ea : kk / 1000 % 1000 = a at *
  generalize eb : kk % 1000 = b at *
  generalize ew : kk / 1000000 = w at *
  have a1000 := rK_lt hr1
  have b1000 := rK_lt hr2
  have F0 : FE M μ (jsetI μ M 32 (N (2 * (i0 + 5)))) := FE.slot (Or.inl rfl)
  have v0 := F0.ev hv
  have w0 : jiv (jsetI μ M 32 (N (2 * (i0 + 5)))) M 33 = N 0 := (ivj (by decide)).trans hw
  have p0 : jiv (jsetI μ M 32 (N (2 * (i0 + 5)))) M 32 = N (2 * (i0 + 5)) := if_pos ⟨rfl, rfl⟩
  have i0' : EI G (jsetI μ M 32 (N (2 * (i0 + 5)))) M S := hi.slot
  have r0 : jrv (jsetI μ M 32 (N (2 * (i0 + 5)))) M 34 = jrv μ M 34 := rfl
  have e31 : jiv (jsetI μ M 32 (N (2 * (i0 + 5)))) M 31 = N g := v0.2.2.2
  have st : jC (D + 1) 215 [.ref M, .int (N w)] μ = (if N a = 0 then jR (D + 1) 215 56 [.ref M, .int (N w), .int (N a), .int (N b), .retAddr 0, .retAddr 0, .retAddr 0, .retAddr 0, .retAddr 0, .retAddr 0, .retAddr 0, .retAddr 0, .retAddr 0, .retAddr 0] [.int (-1)] (jsetI μ M 32 (N (2 * (i0 + 5)))) else (jC D 194 [.ref M, .int (N g), .int (N a / 8)] (jsetI μ M 32 (N (2 * (i0 + 5))))).bind fun p10 => jR (D + 1) 215 56 [.ref M, .int (N w), .int (N a), .int (N b), .retAddr 0, .retAddr 0, .retAddr 0, .retAddr 0, .retAddr 0, .retAddr 0, .retAddr 0, .retAddr 0, .retAddr 0, .retAddr 0] (p10.1.toList ++ []) p10.2) := by
    rw [jC_run (by decide)]
    show jR (D + 1) 215 0 [.ref M, .int (N w), .retAddr 0, .retAddr 0, .retAddr 0, .retAddr 0, .retAddr 0, .retAddr 0, .retAddr 0, .retAddr 0, .retAddr 0, .retAddr 0, .retAddr 0, .retAddr 0] [] μ = _
    rw [b215_0]
    have kX : jk (jsetI μ M 32 (N (2 * (i0 + 5)))) M = 13 := k13
    simp only [gI13, gR13, pI13, pR13, rv13, k13, hr.1, hp, x1, x2, x3, g1, g2, jfit0, and_true, if_true, decide_true, Option.bind_some, rf_some, kX, e31]
  rw [st]
  unfold tR
  unfold evR at nd
  simp only [ea, eb, ew, refO hc1, refO hc2] at nd ⊢
  generalize jsetI μ M 32 (N (2 * (i0 + 5))) = μ1 at *
  -- the two places
  have pa : (if N a = 0 then jR (D + 1) 215 56 [.ref M, .int (N w), .int (N a), .int (N b), .retAddr 0, .retAddr 0, .retAddr 0, .retAddr 0, .retAddr 0, .retAddr 0, .retAddr 0, .retAddr 0, .retAddr 0, .retAddr 0] [.int (-1)] μ1 else (jC D 194 [.ref M, .int (N g), .int (N a / 8)] μ1).bind fun p10 => jR (D + 1) 215 56 [.ref M, .int (N w), .int (N a), .int (N b), .retAddr 0, .retAddr 0, .retAddr 0, .retAddr 0, .retAddr 0, .retAddr 0, .retAddr 0, .retAddr 0, .retAddr 0, .retAddr 0] (p10.1.toList ++ []) p10.2) = jR (D + 1) 215 56 [.ref M, .int (N w), .int (N a), .int (N b), .retAddr 0, .retAddr 0, .retAddr 0, .retAddr 0, .retAddr 0, .retAddr 0, .retAddr 0, .retAddr 0, .retAddr 0, .retAddr 0] [.int (pl (if a = 0 then none else lfind (N (a / 8)) G))] μ1 := by
    by_cases e0 : a = 0
    · rw [if_pos (show N a = 0 by rw [e0]; rfl), if_pos e0]; rfl
    · have ed : N a / 8 = N (a / 8) := N_divL (b := 8) (by omega) (by decide) (by decide)
      rw [if_neg (show ¬ N a = 0 by show ¬ N a = N 0; rw [N_inj (by omega) (by decide)]; exact e0), if_neg e0, ed, v0.place]
      rfl
  have pb : ∀ u4, jR (D + 1) 215 56 [.ref M, .int (N w), .int (N a), .int (N b), u4, .retAddr 0, .retAddr 0, .retAddr 0, .retAddr 0, .retAddr 0, .retAddr 0, .retAddr 0, .retAddr 0, .retAddr 0] [.int (pl (if a = 0 then none else lfind (N (a / 8)) G))] μ1 = jR (D + 1) 215 78 [.ref M, .int (N w), .int (N a), .int (N b), .int (pl (if a = 0 then none else lfind (N (a / 8)) G)), .retAddr 0, .retAddr 0, .retAddr 0, .retAddr 0, .retAddr 0, .retAddr 0, .retAddr 0, .retAddr 0, .retAddr 0] [.int (pl (if b = 0 then none else lfind (N (b / 8)) G))] μ1 := by
    intro u4
    rw [b215_56]
    by_cases e0 : b = 0
    · rw [if_pos (show N b = 0 by rw [e0]; rfl), if_pos e0]; rfl
    · have ed : N b / 8 = N (b / 8) := N_divL (b := 8) (by omega) (by decide) (by decide)
      rw [if_neg (show ¬ N b = 0 by show ¬ N b = N 0; rw [N_inj (by omega) (by decide)]; exact e0), if_neg e0]
      simp only [gI13, gR13, pI13, pR13, rv13, v0.1.k13, e31, ed, v0.place, if_true, Option.bind_some]
      rfl
  rw [pa, pb]
  have lost : ∀ u1 u2 u3 u4 u5 u6 u7 u8 u9 u10 u11 u12 u13, ∃ μ' v, jR (D + 1) 215 92 [.ref M, u1, u2, u3, u4, u5, u6, u7, u8, u9, u10, u11, u12, u13] [] μ1 = some (some (.int v), μ') ∧ RO G M S (LO, N 0) v (i0 + 5) μ μ' := by
    intro u1 u2 u3 u4 u5 u6 u7 u8 u9 u10 u11 u12 u13
    refine ⟨jsetI μ1 M 33 LO, N 0, ?_, F0.trans (FE.slot (Or.inr rfl)), if_pos ⟨rfl, rfl⟩, r0, i0'.slot, fun q => absurd q lo_ne⟩
    rw [b215_92]
    simp only [gI13, gR13, pI13, pR13, rv13, v0.1.k13, jfit0, and_true, if_true, Option.bind_some]
    rfl
  have l8 := v0.len.1
  rw [b215_78]
  have lfl : ∀ (z : Nat) p, (if z = 0 then none else lfind (N (z / 8)) G) = some p → p < G.length := by
    intro z p h
    split at h
    · cases h
    · exact lfind_lt h
  cases e1 : (if a = 0 then none else lfind (N (a / 8)) G) with
  | none =>
    rw [if_pos (show pl none = -1 from rfl)]
    exact lost ..
  | some p1 =>
    have h1 := lfl a p1 e1
    rw [if_neg (show ¬ pl (some p1) = -1 from N_neg1 (by omega))]
    rw [e1] at nd
    cases e2 : (if b = 0 then none else lfind (N (b / 8)) G) with
    | none =>
      rw [if_pos (show pl none = -1 from rfl)]
      exact lost ..
    | some p2 =>
      have h2 := lfl b p2 e2
      rw [if_neg (show ¬ pl (some p2) = -1 from N_neg1 (by omega))]
      rw [e2] at nd
      have nd : ∀ s, s ∈ S → Nd G (s / 3, s % 3) (fun n => if w = 3 then some (N 0, N ((rcells (p1, a / 2 % 4) (p2, b / 2 % 4)).countP (isFull G))) else rfd w (evC G n) (rcells (p1, a / 2 % 4) (p2, b / 2 % 4)) none) := nd
      show ∃ μ' v, _ ∧ RO G M S (if w = 3 then (N 0, N ((rcells (p1, a / 2 % 4) (p2, b / 2 % 4)).countP (isFull G))) else tfd G w (rcells (p1, a / 2 % 4) (p2, b / 2 % 4)) none) v (i0 + 5) μ μ'
      have col : ∀ z : Nat, z < 1000 → (N z - N z / 8 * 8) / 2 = N (z / 2 % 4) := by
        intro z hz
        rw [show N z - N z / 8 * 8 = N (z % 8) from N_modL (b := 8) (by omega) (by decide) (by decide), show N (z % 8) / 2 = N (z % 8 / 2) from N_divL (b := 2) (by omega) (by decide) (by decide), show z % 8 / 2 = z / 2 % 4 by omega]
      have ca := hr1.2.1
      have cb := hr2.2.1
      have em : imin (N (a / 2 % 4)) (N (b / 2 % 4)) = N (min (a / 2 % 4) (b / 2 % 4)) := imin_N (by omega) (by omega)
      have ex : imax (N (a / 2 % 4)) (N (b / 2 % 4)) = N (max (a / 2 % 4) (b / 2 % 4)) := imax_N (by omega) (by omega)
      have ep : imin (N p1) (N p2) = N (min p1 p2) := imin_N (by omega) (by omega)
      rw [col a a1000, col b b1000]
      simp only [pl_some, math_min, em, Option.bind_some]
      -- up to the loop
      have up : ∃ u11 u12 u13, jR (D + 1) 215 115 [.ref M, .int (N w), .int (N a), .int (N b), .int (N p1), .int (N p2), .retAddr 0, .retAddr 0, .retAddr 0, .retAddr 0, .retAddr 0, .retAddr 0, .retAddr 0, .retAddr 0] [.int (N (min (a / 2 % 4) (b / 2 % 4)))] μ1 = jR (D + 1) 215 149 [.ref M, .int (N w), .int (N a), .int (N b), .int (N p1), .int (N p2), .int (N (min (a / 2 % 4) (b / 2 % 4))), .int (N (max (a / 2 % 4) (b / 2 % 4))), .int (N 0), .int (N 1), .int (N (min p1 p2)), u11, u12, u13] [] μ1 := by
        refine ⟨.retAddr 0, .retAddr 0, .retAddr 0, ?_⟩
        rw [b215_115, col a a1000, col b b1000]
        simp only [math_max, ex, Option.bind_some]
        show jR (D + 1) 215 132 [.ref M, .int (N w), .int (N a), .int (N b), .int (N p1), .int (N p2), .int (N (min (a / 2 % 4) (b / 2 % 4))), .retAddr 0, .retAddr 0, .retAddr 0, .retAddr 0, .retAddr 0, .retAddr 0, .retAddr 0] [.int (N (max (a / 2 % 4) (b / 2 % 4)))] μ1 = _
        rw [b215_132]
        simp only [math_min, ep, Option.bind_some]
        show jR (D + 1) 215 147 [.ref M, .int (N w), .int (N a), .int (N b), .int (N p1), .int (N p2), .int (N (min (a / 2 % 4) (b / 2 % 4))), .int (N (max (a / 2 % 4) (b / 2 % 4))), .int 0, .int 1, .retAddr 0, .retAddr 0, .retAddr 0, .retAddr 0] [.int (N (min p1 p2))] μ1 = _
        rw [b215_147]
        rfl
      obtain ⟨u11, u12, u13, up⟩ := up
      have up : jR (D + 1) 215 115 [.ref M, .int (N w), .int (N a), .int (N b), .int (N p1), .int (N p2), .retAddr 0, .retAddr 0, .retAddr 0, .retAddr 0, .retAddr 0, .retAddr 0, .retAddr 0, .retAddr 0] (some (Value.int (N (min (a / 2 % 4) (b / 2 % 4))))).toList μ1 = _ := up
      simp only [List.append_nil]
      rw [up]
      by_cases e3 : w = 3
      · subst e3
        have hm := mn_rows (D := D) (q1 := (p1, a / 2 % 4)) (q2 := (p2, b / 2 % 4)) (u2 := .int (N a)) (u3 := .int (N b)) v0 w0 h1 h2 l8 ca cb (max p1 p2 + 1 - min p1 p2) (min p1 p2) 0 (N 1) u11 u12 u13 (by show min p1 p2 + (max p1 p2 + 1 - min p1 p2) = max p1 p2 + 1; omega)
        rw [Nat.zero_add] at hm
        rw [if_pos rfl]
        exact ⟨μ1, _, hm, F0, w0, r0, i0', fun _ => ⟨rfl, p0⟩⟩
      · simp only [if_neg e3] at nd ⊢
        obtain ⟨μ2, v, z1, z2, z3, z4, z5, z6, z7⟩ := rg_rows (D := D) (q1 := (p1, a / 2 % 4)) (q2 := (p2, b / 2 % 4)) (u2 := .int (N a)) (u3 := .int (N b)) (show w < 3 by omega) ha (by omega) hS hS2 hk h1 h2 l8 ca cb (max p1 p2 + 1 - min p1 p2) (min p1 p2) none μ1 u11 u12 u13 (by show min p1 p2 + (max p1 p2 + 1 - min p1 p2) = max p1 p2 + 1; omega) v0 w0 i0' nd
        exact ⟨μ2, v, z1, F0.trans z2, z3, z6.trans r0, z7, fun q => ⟨z4 q, z5.trans p0⟩⟩
end LAY
