/-! THE REFERENCE, MERGING: a cell, a row -/
/-- behind some cells of a row of the fourth grid -/
def MI (M i c : Nat) (V : Nat → DC) (l : List CL) (μ μ' : jM) : Prop := FMe M μ μ' ∧ jiv μ' (M + 3 + 3) = jiv μ (M + 3 + 3) ∧ jiv μ' (M + 1) = jiv μ (M + 1) ∧ K3 μ' M ∧ MRc μ' M l ∧ ∃ X : Nat → RC (Option Nat), (∀ j, j < c → MCO μ' (M + 424) (X j) ∧ rcm (mF μ') (X j) = V j) ∧ ∀ z, rc μ' (mA M 3) z = if z / 3 = i ∧ z % 3 < c then X (z % 3) else rc μ (mA M 3) z
section LAY
variable {μ μ' μ'' ν : jM} {S S' : Nat → Prop} {T T' : Nat → Nat → Prop} {M g h t s n w d D i j k x y a b c f : Nat} {A B C : GA} {σ : SG} {G : Nat → DG} {o o' ob ox ot : Option Nat} {R : Nat → Nat × Nat} {l : List CL} {V : Nat → DC}
theorem MRc.keep (h : MRc μ M l) (e : ∀ a, a = M ∨ (M + 405 ≤ a ∧ a < M + 409) → jiv μ' a = jiv μ a) : MRc μ' M l := by
  obtain ⟨h1, h2, h3⟩ := h
  refine ⟨h1, by rw [e M (Or.inl rfl)]; exact h2, ?_⟩
  rw [e (M + 405) (by omega), e (M + 406) (by omega), e (M + 407) (by omega), e (M + 408) (by omega)]
  exact h3
/-- a content put into the fourth grid -/
theorem pc_eff {x : RC (Option Nat)} {v : Int32 × Int32 × List Tk} (k3 : K3 μ M) (ct : CT μ M x v) (hl : MRc μ M l) : FMe M μ (putC μ (mA M 3) y x.1 x.2.1 x.2.2.1) ∧ jiv (putC μ (mA M 3) y x.1 x.2.1 x.2.2.1) (M + 3 + 3) = jiv μ (M + 3 + 3) ∧ jiv (putC μ (mA M 3) y x.1 x.2.1 x.2.2.1) (M + 1) = jiv μ (M + 1) ∧ K3 (putC μ (mA M 3) y x.1 x.2.1 x.2.2.1) M ∧ CT (putC μ (mA M 3) y x.1 x.2.1 x.2.2.1) M x v ∧ rc (putC μ (mA M 3) y x.1 x.2.1 x.2.2.1) (mA M 3) = updf (rc μ (mA M 3)) y (x.1, x.2.1, x.2.2.1, (rc μ (mA M 3) y).2.2.2) ∧ MRc (putC μ (mA M 3) y x.1 x.2.1 x.2.2.1) M l := by
  have F : FMe M μ (putC μ (mA M 3) y x.1 x.2.1 x.2.2.1) := FMg.me (putC_fr (h := 3))
  have e : ∀ a, a ≠ M + 8 + 3 → a ≠ M + 13 + 3 → jiv (putC μ (mA M 3) y x.1 x.2.1 x.2.2.1) a = jiv μ a := fun a h1 h2 => (iv_setIn h2).trans (iv_setIn h1)
  refine ⟨F, e _ (by omega) (by omega), e _ (by omega) (by omega), fun j b hb => ?_, ct.to F.fd, rc_putC (mA_ok (by decide)), hl.keep fun a h => e a (by omega) (by omega)⟩
  have hb : (if M + 23 + 3 = M + 23 + 3 ∧ j = y then x.2.2.1 else jrv μ (M + 23 + 3) j) = some b := hb
  show jk μ b = 20
  split at hb
  · exact (mco_put ct.1).2.2 b hb
  · exact k3 j b hb
/-- the content of one merged cell -/
theorem r_mcCont {kk : Int32} {u7 : Value} (h : GG μ M G) (hr : RG μ M R) (k3 : K3 μ M) (hl : MRc μ M l) (hn : l.length + 2 ≤ 80) (hc : c < 3) (hb : smG G 0 ob) (hx : smG G 1 ox) (ht : smG G 2 ot) (hy : y < 24) : ∃ μ1 x u7, jC (d + 3) 235 [.ref M, .int kk, .int (pl ob), .int (pl ox), .int (pl ot), .int (N c), .int (N y)] μ = jR (d + 3) 235 113 [.ref M, .int kk, .int (pl ob), .int (pl ox), .int (pl ot), .int (N c), .int (N y), u7, .retAddr 0, .retAddr 0, .retAddr 0, .retAddr 0] [] μ1 ∧ FMe M μ μ1 ∧ jiv μ1 (M + 3 + 3) = jiv μ (M + 3 + 3) ∧ jiv μ1 (M + 1) = jiv μ (M + 1) ∧ K3 μ1 M ∧ CT μ1 M x (pCont (R c) (cO [] (G 0) ob c) (cO [] (G 1) ox c) (cO [] (G 2) ot c)).1 ∧ rc μ1 (mA M 3) = updf (rc μ (mA M 3)) y (x.1, x.2.1, x.2.2.1, (rc μ (mA M 3) y).2.2.2) ∧ MRc μ1 M (l ++ if (pCont (R c) (cO [] (G 0) ob c) (cO [] (G 1) ox c) (cO [] (G 2) ot c)).2 then [(N 1, kk, N c, N 0)] else []) := by
  have hq := h.1
  have k13 := hq.k13
  have a12 := r_areAlike (d := d + 1) (g := 1) (w := 2) h (by decide) (by decide) hc hx ht
  have a20 := r_areAlike (d := d + 1) (g := 2) (w := 0) h (by decide) (by decide) hc ht hb
  have a10 := r_areAlike (d := d + 1) (g := 1) (w := 0) h (by decide) (by decide) hc hx hb
  have a12 : jC (d + 2) 229 [.ref M, .int 1, .int (pl ox), .int 2, .int (pl ot), .int (N c)] μ = _ := a12
  have a20 : jC (d + 2) 229 [.ref M, .int 2, .int (pl ot), .int 0, .int (pl ob), .int (N c)] μ = _ := a20
  have a10 : jC (d + 2) 229 [.ref M, .int 1, .int (pl ox), .int 0, .int (pl ob), .int (N c)] μ = _ := a10
  have st : jC (d + 3) 235 [.ref M, .int kk, .int (pl ob), .int (pl ox), .int (pl ot), .int (N c), .int (N y)] μ = jR (d + 3) 235 11 [.ref M, .int kk, .int (pl ob), .int (pl ox), .int (pl ot), .int (N c), .int (N y), .retAddr 0, .retAddr 0, .retAddr 0, .retAddr 0, .retAddr 0] [.int (pN (cnt (cO [] (G 1) ox c) = cnt (cO [] (G 2) ot c)))] μ := by
    rw [jC_run (by decide)]
    show jR (d + 3) 235 0 [.ref M, .int kk, .int (pl ob), .int (pl ox), .int (pl ot), .int (N c), .int (N y), .retAddr 0, .retAddr 0, .retAddr 0, .retAddr 0, .retAddr 0] [] μ = _
    rw [b235_0]
    simp only [gI13, gR13, pI13, pR13, rv13, k13, if_true, Option.bind_some, a12]
    rfl
  -- mine
  have mine : (cnt (cO [] (G 1) ox c) = cnt (cO [] (G 2) ot c) ∨ cnt (cO [] (G 0) ob c) = cnt (cO [] (G 2) ot c)) → ∃ x, CT μ M x (cnt (cO [] (G 1) ox c)) ∧ jC (d + 3) 235 [.ref M, .int kk, .int (pl ob), .int (pl ox), .int (pl ot), .int (N c), .int (N y)] μ = jR (d + 3) 235 113 [.ref M, .int kk, .int (pl ob), .int (pl ox), .int (pl ot), .int (N c), .int (N y), .int 1, .retAddr 0, .retAddr 0, .retAddr 0, .retAddr 0] [] (putC μ (mA M 3) y x.1 x.2.1 x.2.2.1) := by
    intro hm
    obtain ⟨x, z1, z2⟩ := r_takes (d := d + 1) (g := 1) h (by decide) hc hx hy
    have z2 : jC (d + 2) 236 [.ref M, .int 1, .int (pl ox), .int (N c), .int (N y)] μ = _ := z2
    refine ⟨x, z1, ?_⟩
    have s28 : jR (d + 3) 235 28 [.ref M, .int kk, .int (pl ob), .int (pl ox), .int (pl ot), .int (N c), .int (N y), .retAddr 0, .retAddr 0, .retAddr 0, .retAddr 0, .retAddr 0] [] μ = jR (d + 3) 235 113 [.ref M, .int kk, .int (pl ob), .int (pl ox), .int (pl ot), .int (N c), .int (N y), .int 1, .retAddr 0, .retAddr 0, .retAddr 0, .retAddr 0] [] (putC μ (mA M 3) y x.1 x.2.1 x.2.2.1) := by
      rw [b235_28, b235_33, if_neg (by decide)]
      simp only [gI13, gR13, pI13, pR13, rv13, k13, if_true, Option.bind_some, z2]
      show jR (d + 3) 235 50 [.ref M, .int kk, .int (pl ob), .int (pl ox), .int (pl ot), .int (N c), .int (N y), .int 1, .retAddr 0, .retAddr 0, .retAddr 0, .retAddr 0] [] _ = _
      rw [b235_50]
    rw [st, b235_11]
    by_cases e1 : cnt (cO [] (G 1) ox c) = cnt (cO [] (G 2) ot c)
    · rw [pN_pos e1, if_neg (by decide)]
      exact s28
    · rw [pN_neg e1, if_pos (by decide)]
      simp only [gI13, gR13, pI13, pR13, rv13, k13, if_true, Option.bind_some, a20]
      show jR (d + 3) 235 25 [.ref M, .int kk, .int (pl ob), .int (pl ox), .int (pl ot), .int (N c), .int (N y), .retAddr 0, .retAddr 0, .retAddr 0, .retAddr 0, .retAddr 0] [.int (pN (cnt (cO [] (G 2) ot c) = cnt (cO [] (G 0) ob c)))] μ = _
      rw [b235_25, pN_pos ((hm.resolve_left e1).symm), if_neg (by decide)]
      exact s28
  have other : ¬ (cnt (cO [] (G 1) ox c) = cnt (cO [] (G 2) ot c) ∨ cnt (cO [] (G 0) ob c) = cnt (cO [] (G 2) ot c)) → jC (d + 3) 235 [.ref M, .int kk, .int (pl ob), .int (pl ox), .int (pl ot), .int (N c), .int (N y)] μ = jR (d + 3) 235 63 [.ref M, .int kk, .int (pl ob), .int (pl ox), .int (pl ot), .int (N c), .int (N y), .int 0, .retAddr 0, .retAddr 0, .retAddr 0, .retAddr 0] [.int (pN (cnt (cO [] (G 1) ox c) = cnt (cO [] (G 0) ob c)))] μ := by
    intro hm
    rw [st, b235_11, pN_neg (fun q => hm (Or.inl q)), if_pos (by decide)]
    simp only [gI13, gR13, pI13, pR13, rv13, k13, if_true, Option.bind_some, a20]
    show jR (d + 3) 235 25 [.ref M, .int kk, .int (pl ob), .int (pl ox), .int (pl ot), .int (N c), .int (N y), .retAddr 0, .retAddr 0, .retAddr 0, .retAddr 0, .retAddr 0] [.int (pN (cnt (cO [] (G 2) ot c) = cnt (cO [] (G 0) ob c)))] μ = _
    rw [b235_25, pN_neg (fun q => hm (Or.inr q.symm)), if_pos (by decide), b235_33, if_pos (by decide)]
    simp only [gI13, gR13, pI13, pR13, rv13, k13, if_true, Option.bind_some, a10]
    rfl
  by_cases hm : cnt (cO [] (G 1) ox c) = cnt (cO [] (G 2) ot c) ∨ cnt (cO [] (G 0) ob c) = cnt (cO [] (G 2) ot c)
  · obtain ⟨x, z1, z2⟩ := mine hm
    obtain ⟨e1, e2, e3, e4, e5, e6, e7⟩ := pc_eff (y := y) k3 z1 hl
    refine ⟨_, x, _, z2, e1, e2, e3, e4, ?_, e6, ?_⟩
    · unfold pCont
      rw [if_pos hm]; exact e5
    · unfold pCont
      rw [if_pos hm]
      show MRc _ M (l ++ [])
      rw [List.append_nil]; exact e7
  · by_cases h2 : cnt (cO [] (G 0) ob c) = cnt (cO [] (G 1) ox c)
    · obtain ⟨x, z1, z2⟩ := r_takes (d := d + 1) (g := 2) h (by decide) hc ht hy
      have z2 : jC (d + 2) 236 [.ref M, .int 2, .int (pl ot), .int (N c), .int (N y)] μ = _ := z2
      obtain ⟨e1, e2, e3, e4, e5, e6, e7⟩ := pc_eff (y := y) k3 z1 hl
      refine ⟨_, x, .int 0, ?_, e1, e2, e3, e4, ?_, e6, ?_⟩
      · rw [other hm, b235_63, pN_pos h2.symm, if_neg (by decide)]
        simp only [gI13, gR13, pI13, pR13, rv13, k13, if_true, Option.bind_some, z2]
        show jR (d + 3) 235 77 [.ref M, .int kk, .int (pl ob), .int (pl ox), .int (pl ot), .int (N c), .int (N y), .int 0, .retAddr 0, .retAddr 0, .retAddr 0, .retAddr 0] [] _ = _
        rw [b235_77]
      · unfold pCont
        rw [if_neg hm, if_pos h2]; exact e5
      · unfold pCont
        rw [if_neg hm, if_pos h2]
        show MRc _ M (l ++ [])
        rw [List.append_nil]; exact e7
    · obtain ⟨x, z1, z2⟩ := r_byRule (d := d) h hr hc hb hx ht hy hm h2
      obtain ⟨e1, e2, e3, e4, e5, e6, e7⟩ := pc_eff (y := y) k3 z1 hl
      have ad := r_adds (d := d + 1) (e1.gg h) (e1.rg hr) hc hb hx ht
      have s92 : jC (d + 3) 235 [.ref M, .int kk, .int (pl ob), .int (pl ox), .int (pl ot), .int (N c), .int (N y)] μ = jR (d + 3) 235 102 [.ref M, .int kk, .int (pl ob), .int (pl ox), .int (pl ot), .int (N c), .int (N y), .int 0, .retAddr 0, .retAddr 0, .retAddr 0, .retAddr 0] [.int (pN (((cO [] (G 1) ox c).1 = N 1 ∧ (cO [] (G 2) ot c).1 = N 1) ∧ ((R c).1 = 3 ∨ (R c).1 = 4) ∧ (cO [] (G 0) ob c).1 ≠ N 2))] (putC μ (mA M 3) y x.1 x.2.1 x.2.2.1) := by
        rw [other hm, b235_63, pN_neg (fun q => h2 q.symm), if_pos (by decide)]
        simp only [gI13, gR13, pI13, pR13, rv13, k13, if_true, Option.bind_some, z2]
        show jR (d + 3) 235 92 [.ref M, .int kk, .int (pl ob), .int (pl ox), .int (pl ot), .int (N c), .int (N y), .int 0, .retAddr 0, .retAddr 0, .retAddr 0, .retAddr 0] [] _ = _
        rw [b235_92]
        simp only [gI13, gR13, pI13, pR13, rv13, (e1.qs hq).k13, if_true, Option.bind_some, ad]
        rfl
      have c2 : (pCont (R c) (cO [] (G 0) ob c) (cO [] (G 1) ox c) (cO [] (G 2) ot c)).2 = !decide (((cO [] (G 1) ox c).1 = N 1 ∧ (cO [] (G 2) ot c).1 = N 1) ∧ ((R c).1 = 3 ∨ (R c).1 = 4) ∧ (cO [] (G 0) ob c).1 ≠ N 2) := by
        unfold pCont
        rw [if_neg hm, if_neg h2]
        by_cases ea : ((cO [] (G 1) ox c).1 = N 1 ∧ (cO [] (G 2) ot c).1 = N 1) ∧ ((R c).1 = 3 ∨ (R c).1 = 4) ∧ (cO [] (G 0) ob c).1 ≠ N 2
        · rw [if_pos ea, decide_eq_true ea]; rfl
        · rw [if_neg ea, decide_eq_false ea]; rfl
      by_cases ea : ((cO [] (G 1) ox c).1 = N 1 ∧ (cO [] (G 2) ot c).1 = N 1) ∧ ((R c).1 = 3 ∨ (R c).1 = 4) ∧ (cO [] (G 0) ob c).1 ≠ N 2
      · refine ⟨_, x, .int 0, ?_, e1, e2, e3, e4, e5, e6, ?_⟩
        · rw [s92, b235_102, pN_pos ea, if_neg (by decide)]
        · rw [c2, decide_eq_true ea]
          show MRc _ M (l ++ [])
          rw [List.append_nil]; exact e7
      · obtain ⟨μ2, w1, w2, w3, w4⟩ := r_clash (d := d + 2) (kd := N 1) (kk := kk) (cc := N c) (e1.qs hq) e7 (by omega)
        have w1 : jC (d + 2) 240 [.ref M, .int 1, .int kk, .int (N c)] (putC μ (mA M 3) y x.1 x.2.1 x.2.2.1) = _ := w1
        have F2 : FMe M (putC μ (mA M 3) y x.1 x.2.1 x.2.2.1) μ2 := ⟨w2.mono (fun a k => by
          rcases k with k | k
          · exact Or.inl k
          · exact Or.inr (Or.inr (Or.inr k))) (fun a j k => k.elim), fun j _ => congrFun (w2.iv (by omega)) j, w3⟩
        have iv2 : ∀ a, M < a → a < M + 405 → jiv μ2 a = jiv (putC μ (mA M 3) y x.1 x.2.1 x.2.2.1) a := fun a h1 h2 => w2.iv (by omega)
        have rv2 : ∀ a j, jrv μ2 a j = jrv (putC μ (mA M 3) y x.1 x.2.1 x.2.2.1) a j := fun a j => w2.rv id
        refine ⟨μ2, x, .int 0, ?_, e1.trans F2, (iv2 _ (by omega) (by omega)).trans e2, (iv2 _ (by omega) (by omega)).trans e3, fun j b hb => ?_, e5.to F2.fd, ?_, ?_⟩
        · rw [s92, b235_102, pN_neg ea, if_pos (by decide)]
          simp only [gI13, gR13, pI13, pR13, rv13, (e1.qs hq).k13, if_true, Option.bind_some, w1]
          rfl
        · rw [w2.kk]
          rw [rv2] at hb
          exact e4 j b hb
        · rw [← e6]
          exact rc_eq (iv2 _ (by omega) (by omega)) (iv2 _ (by omega) (by omega)) (fun z => rv2 _ z) (iv2 _ (by omega) (by omega))
        · rw [c2, decide_eq_false ea]
          exact w4
end LAY
