/-! THE REFERENCE, MERGING: a cell whole, a row whole -/
section LAY
variable {μ μ' μ'' ν : jM} {S S' : Nat → Prop} {T T' : Nat → Nat → Prop} {M g h t s n w d D i j k x y a b c f : Nat} {A B C : GA} {σ : SG} {G : Nat → DG} {o o' ob ox ot : Option Nat} {R : Nat → Nat × Nat} {l : List CL} {V : Nat → DC}
/-- a clash, as a change of merging -/
theorem clash_me (w2 : Fx (fun a => a = M ∨ (M + 405 ≤ a ∧ a < M + 409)) (fun _ _ => False) μ μ') (w3 : ∀ j, j ≠ 35 → jiv μ' M j = jiv μ M j) : FMe M μ μ' ∧ (∀ a, M < a → a < M + 405 → jiv μ' a = jiv μ a) ∧ (∀ a j, jrv μ' a j = jrv μ a j) ∧ rc μ' (mA M 3) = rc μ (mA M 3) ∧ (K3 μ M → K3 μ' M) := by
  have iv2 : ∀ a, M < a → a < M + 405 → jiv μ' a = jiv μ a := fun a h1 h2 => w2.iv (by omega)
  have rv2 : ∀ a j, jrv μ' a j = jrv μ a j := fun a j => w2.rv id
  refine ⟨⟨w2.mono (fun a k => ?_) (fun a j k => k.elim), fun j _ => congrFun (w2.iv (by omega)) j, w3⟩, iv2, rv2, ?_, fun k3 j b hb => ?_⟩
  · rcases k with k | k
    · exact Or.inl k
    · exact Or.inr (Or.inr (Or.inr k))
  · exact rc_eq (iv2 _ (by omega) (by omega)) (iv2 _ (by omega) (by omega)) (fun z => rv2 _ z) (iv2 _ (by omega) (by omega))
  · rw [w2.kk]
    rw [rv2] at hb
    exact k3 j b hb
/-- one merged cell -/
theorem r_mergeCell {kk : Int32} (h : GG μ M G) (hr : RG μ M R) (k3 : K3 μ M) (hl : MRc μ M l) (hn : l.length + 2 ≤ 80) (hc : c < 3) (hb : smG G 0 ob) (hx : smG G 1 ox) (ht : smG G 2 ot) (hy : y < 24) : ∃ μ' x, jC (d + 3) 235 [.ref M, .int kk, .int (pl ob), .int (pl ox), .int (pl ot), .int (N c), .int (N y)] μ = some (none, μ') ∧ FMe M μ μ' ∧ jiv μ' (M + 3 + 3) = jiv μ (M + 3 + 3) ∧ jiv μ' (M + 1) = jiv μ (M + 1) ∧ K3 μ' M ∧ MRc μ' M (l ++ pClc R (G 0) (G 1) (G 2) ob ox ot kk c) ∧ MCO μ' (M + 424) x ∧ rcm (mF μ') x = pCell R (G 0) (G 1) (G 2) ob ox ot c ∧ rc μ' (mA M 3) = updf (rc μ (mA M 3)) y x := by
  obtain ⟨μ1, x, u7, c1, F1, e1, e2, k31, ct, erc, l1⟩ := r_mcCont (d := d) (kk := kk) (u7 := .int 0) h hr k3 hl hn hc hb hx ht hy
  have h1 := F1.gg h
  have hq := h1.1
  have k13 := hq.k13
  have m0 := r_noteAt (d := d + 2) (g := 0) h1 (by decide) hc hb
  have m1 := r_noteAt (d := d + 2) (g := 1) h1 (by decide) hc hx
  have m2 := r_noteAt (d := d + 2) (g := 2) h1 (by decide) hc ht
  have m0 : jC (d + 2) 232 [.ref M, .int 0, .int (pl ob), .int (N c)] μ1 = _ := m0
  have m1 : jC (d + 2) 232 [.ref M, .int 1, .int (pl ox), .int (N c)] μ1 = _ := m1
  have m2 : jC (d + 2) 232 [.ref M, .int 2, .int (pl ot), .int (N c)] μ1 = _ := m2
  have c2 : jR (d + 3) 235 113 [.ref M, .int kk, .int (pl ob), .int (pl ox), .int (pl ot), .int (N c), .int (N y), u7, .retAddr 0, .retAddr 0, .retAddr 0, .retAddr 0] [] μ1 = jR (d + 3) 235 142 [.ref M, .int kk, .int (pl ob), .int (pl ox), .int (pl ot), .int (N c), .int (N y), u7, .int (cO [] (G 1) ox c).2.2.2, .int (cO [] (G 2) ot c).2.2.2, .retAddr 0, .retAddr 0] [.int (cO [] (G 0) ob c).2.2.2] μ1 := by
    rw [b235_113]
    simp only [gI13, gR13, pI13, pR13, rv13, k13, if_true, Option.bind_some, m1]
    show jR (d + 3) 235 121 [.ref M, .int kk, .int (pl ob), .int (pl ox), .int (pl ot), .int (N c), .int (N y), u7, .retAddr 0, .retAddr 0, .retAddr 0, .retAddr 0] [.int (cO [] (G 1) ox c).2.2.2] μ1 = _
    rw [b235_121]
    simp only [gI13, gR13, pI13, pR13, rv13, k13, if_true, Option.bind_some, m2]
    show jR (d + 3) 235 132 [.ref M, .int kk, .int (pl ob), .int (pl ox), .int (pl ot), .int (N c), .int (N y), u7, .int (cO [] (G 1) ox c).2.2.2, .retAddr 0, .retAddr 0, .retAddr 0] [.int (cO [] (G 2) ot c).2.2.2] μ1 = _
    rw [b235_132]
    simp only [gI13, gR13, pI13, pR13, rv13, k13, if_true, Option.bind_some, m0]
    rfl
  -- the note set down
  have fin : ∀ (v : Int32) (bb : Nat) (u10 : Value), bb < 2 → (pNote (cO [] (G 0) ob c).2.2.2 (cO [] (G 1) ox c).2.2.2 (cO [] (G 2) ot c).2.2.2).1 = v → ((pNote (cO [] (G 0) ob c).2.2.2 (cO [] (G 1) ox c).2.2.2 (cO [] (G 2) ot c).2.2.2).2 = decide (bb = 1)) → ∃ μ' x, jR (d + 3) 235 218 [.ref M, .int kk, .int (pl ob), .int (pl ox), .int (pl ot), .int (N c), .int (N y), u7, .int (cO [] (G 1) ox c).2.2.2, .int (cO [] (G 2) ot c).2.2.2, u10, .int (N bb)] [.int v, .int (N y), .ref (M + 18 + 3)] μ1 = some (none, μ') ∧ FMe M μ μ' ∧ jiv μ' (M + 3 + 3) = jiv μ (M + 3 + 3) ∧ jiv μ' (M + 1) = jiv μ (M + 1) ∧ K3 μ' M ∧ MRc μ' M (l ++ pClc R (G 0) (G 1) (G 2) ob ox ot kk c) ∧ MCO μ' (M + 424) x ∧ rcm (mF μ') x = pCell R (G 0) (G 1) (G 2) ob ox ot c ∧ rc μ' (mA M 3) = updf (rc μ (mA M 3)) y x := by
    intro v bb u10 hbb hv hb2
    have gg := hq.gk (g := 3) (by decide)
    have s1 := ent_set (μ := μ1) (v := v) gg.2.2.2.1.1 gg.2.2.2.1.2 hy (by decide)
    have FT : FMe M μ1 (putT μ1 (mA M 3) y v) := (putT_f1 (by decide)).me
    have ivT : ∀ a, a ≠ M + 18 + 3 → jiv (putT μ1 (mA M 3) y v) a = jiv μ1 a := fun a h => iv_setIn h
    have kT : K3 (putT μ1 (mA M 3) y v) M := k31
    have lT : MRc (putT μ1 (mA M 3) y v) M _ := l1.keep fun a ha => ivT a (by omega)
    have ctT := ct.to FT.fd
    have rcT : rc (putT μ1 (mA M 3) y v) (mA M 3) = updf (rc μ (mA M 3)) y (x.1, x.2.1, x.2.2.1, v) := by
      rw [rc_putT (mA_ok (by decide)), erc]
      funext z
      unfold updf
      by_cases ez : z = y
      · rw [if_pos ez, if_pos rfl, if_pos ez]
      · rw [if_neg ez, if_neg ez, if_neg ez]
    have mcoT : MCO (putT μ1 (mA M 3) y v) (M + 424) (x.1, x.2.1, x.2.2.1, v) := ctT.1
    have rcmT : ∀ m, cnt (rcm (mF m) x) = (pCont (R c) (cO [] (G 0) ob c) (cO [] (G 1) ox c) (cO [] (G 2) ot c)).1 → rcm (mF m) (x.1, x.2.1, x.2.2.1, v) = pCell R (G 0) (G 1) (G 2) ob ox ot c := by
      intro m hm
      unfold pCell
      rw [← hm, hv]
      rfl
    rw [b235_218 (hs0 := ir_ref)]
    simp only [s1, Option.bind_some]
    have e0 : jsetI μ1 (M + 18 + 3) y v = putT μ1 (mA M 3) y v := rfl
    rw [e0]
    rcases (show bb = 0 ∨ bb = 1 by omega) with rfl | rfl
    · rw [if_pos (show N 0 = 0 from rfl)]
      refine ⟨_, _, b235_232 .., F1.trans FT, (ivT _ (by omega)).trans e1, (ivT _ (by omega)).trans e2, kT, ?_, mcoT, rcmT _ ctT.2, rcT⟩
      unfold pClc
      rw [hb2]
      show MRc _ M (l ++ (_ ++ []))
      rw [List.append_nil]; exact lT
    · rw [if_neg (by decide)]
      obtain ⟨μ2, w1, w2, w3, w4⟩ := r_clash (d := d + 2) (kd := N 3) (kk := kk) (cc := N c) (FT.qs hq) lT (by
        rw [List.length_append]
        split
        · show l.length + 1 < 80; omega
        · show l.length + 0 < 80; omega)
      have w1 : jC (d + 2) 240 [.ref M, .int 3, .int kk, .int (N c)] (putT μ1 (mA M 3) y v) = _ := w1
      obtain ⟨F2, iv2, rv2, rc2, kk2⟩ := clash_me w2 w3
      simp only [gI13, gR13, pI13, pR13, rv13, (FT.qs hq).k13, if_true, Option.bind_some, w1]
      have ct2 := ctT.to F2.fd
      refine ⟨μ2, _, b235_232 .., F1.trans (FT.trans F2), (iv2 _ (by omega) (by omega)).trans ((ivT _ (by omega)).trans e1), (iv2 _ (by omega) (by omega)).trans ((ivT _ (by omega)).trans e2), kk2 kT, ?_, ?_, rcmT _ ct2.2, rc2.trans rcT⟩
      · unfold pClc
        rw [hb2]
        rw [List.append_assoc] at w4
        exact w4
      · have := ct2.1
        exact this
  have w4 : jgR μ1 13 4 (.ref M) = some (.ref (M + 17)) := by
    simp only [gI13, gR13, pI13, pR13, rv13, k13, hq.f.2.2.2.2.1, if_true, rf_some]
  have w5 : jaR μ1 (.ref (M + 17)) 3 = some (.ref (M + 18 + 3)) := (hq.gr (g := 3) (by decide)).2.2.2.1
  have g170 : ∀ s : Int32, jR (d + 3) 235 170 [.ref M, .int kk, .int (pl ob), .int (pl ox), .int (pl ot), .int (N c), .int (N y), u7, .int (cO [] (G 1) ox c).2.2.2, .int (cO [] (G 2) ot c).2.2.2, .int (cO [] (G 0) ob c).2.2.2, .retAddr 0] [.int s] μ1 = if (cO [] (G 1) ox c).2.2.2 = (cO [] (G 2) ot c).2.2.2 ∨ (cO [] (G 2) ot c).2.2.2 = (cO [] (G 0) ob c).2.2.2 then jR (d + 3) 235 218 [.ref M, .int kk, .int (pl ob), .int (pl ox), .int (pl ot), .int (N c), .int (N y), u7, .int (cO [] (G 1) ox c).2.2.2, .int (cO [] (G 2) ot c).2.2.2, .int (cO [] (G 0) ob c).2.2.2, .int s] [.int (cO [] (G 1) ox c).2.2.2, .int (N y), .ref (M + 18 + 3)] μ1 else if (cO [] (G 1) ox c).2.2.2 = (cO [] (G 0) ob c).2.2.2 then jR (d + 3) 235 218 [.ref M, .int kk, .int (pl ob), .int (pl ox), .int (pl ot), .int (N c), .int (N y), u7, .int (cO [] (G 1) ox c).2.2.2, .int (cO [] (G 2) ot c).2.2.2, .int (cO [] (G 0) ob c).2.2.2, .int s] [.int (cO [] (G 2) ot c).2.2.2, .int (N y), .ref (M + 18 + 3)] μ1 else jR (d + 3) 235 218 [.ref M, .int kk, .int (pl ob), .int (pl ox), .int (pl ot), .int (N c), .int (N y), u7, .int (cO [] (G 1) ox c).2.2.2, .int (cO [] (G 2) ot c).2.2.2, .int (cO [] (G 0) ob c).2.2.2, .int s] [.int (imax (cO [] (G 1) ox c).2.2.2 (cO [] (G 2) ot c).2.2.2), .int (N y), .ref (M + 18 + 3)] μ1 := by
    intro s
    rw [b235_170, w4]
    simp only [Option.bind_some, w5]
    by_cases z1 : (cO [] (G 1) ox c).2.2.2 = (cO [] (G 2) ot c).2.2.2
    · rw [if_pos z1, if_pos (Or.inl z1), b235_194 (hs0 := ir_ref)]
    · rw [if_neg z1]
      by_cases z2 : (cO [] (G 2) ot c).2.2.2 = (cO [] (G 0) ob c).2.2.2
      · rw [if_pos z2, if_pos (Or.inr z2), b235_194 (hs0 := ir_ref)]
      · have z12 : ¬ ((cO [] (G 1) ox c).2.2.2 = (cO [] (G 2) ot c).2.2.2 ∨ (cO [] (G 2) ot c).2.2.2 = (cO [] (G 0) ob c).2.2.2) := fun q => q.elim z1 z2
        rw [if_neg z2, if_neg z12]
        by_cases z3 : (cO [] (G 1) ox c).2.2.2 = (cO [] (G 0) ob c).2.2.2
        · rw [if_pos z3, if_pos z3]
        · rw [if_neg z3, if_neg z3]
          simp only [math_max, Option.bind_some]
          rfl
  rw [c1, c2, b235_142]
  by_cases z1 : (cO [] (G 1) ox c).2.2.2 = (cO [] (G 2) ot c).2.2.2
  · rw [if_pos z1, b235_169, g170, if_pos (Or.inl z1)]
    exact fin _ 0 _ (by decide) (by unfold pNote; rw [if_pos (Or.inl z1)]) (by unfold pNote; rw [if_pos (Or.inl z1)]; rfl)
  · rw [if_neg z1]
    by_cases z3 : (cO [] (G 1) ox c).2.2.2 = (cO [] (G 0) ob c).2.2.2
    · rw [if_pos z3, b235_169, g170]
      have z2 : ¬ (cO [] (G 2) ot c).2.2.2 = (cO [] (G 0) ob c).2.2.2 := fun q => z1 (z3.trans q.symm)
      rw [if_neg (fun q => q.elim z1 z2), if_pos z3]
      exact fin _ 0 _ (by decide) (by unfold pNote; rw [if_neg (fun q => q.elim z1 z2), if_pos z3]) (by unfold pNote; rw [if_neg (fun q => q.elim z1 z2), if_pos z3]; rfl)
    · rw [if_neg z3]
      by_cases z2 : (cO [] (G 2) ot c).2.2.2 = (cO [] (G 0) ob c).2.2.2
      · rw [if_pos z2, b235_169, g170, if_pos (Or.inr z2)]
        exact fin _ 0 _ (by decide) (by unfold pNote; rw [if_pos (Or.inr z2)]) (by unfold pNote; rw [if_pos (Or.inr z2)]; rfl)
      · rw [if_neg z2, g170, if_neg (fun q => q.elim z1 z2), if_neg z3]
        exact fin _ 1 _ (by decide) (by unfold pNote; rw [if_neg (fun q => q.elim z1 z2), if_neg z3]) (by unfold pNote; rw [if_neg (fun q => q.elim z1 z2), if_neg z3]; rfl)
end LAY
