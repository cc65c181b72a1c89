/-! THE REFERENCE, MERGING: a row -/
section LAY
variable {μ μ' μ'' ν : jM} {S S' : Nat → Prop} {T T' : Nat → Nat → Prop} {M g h t s n w d D i j k x y a b c f q : Nat} {A B C : GA} {σ : SG} {G : Nat → DG} {o o' ob ox ot : Option Nat} {R : Nat → Nat × Nat} {l l' : List CL} {V : Nat → DC}
theorem find_key {kk : Int32} (h : lfind kk (rG μ A) = some i) : jiv μ (A.1 1) i = kk ∧ i < vN μ A := by
  obtain ⟨w, h1, h2⟩ := lfind_key h
  have hi : i < vN μ A := by
    have := lfind_lt h
    rwa [len_rG] at this
  have e : (rG μ A)[i]? = some (rowAt μ A i) := RWN_get (n := vN μ A) hi
  rw [e] at h1
  cases h1
  exact ⟨h2, hi⟩
theorem MI.step {x : RC (Option Nat)} (h : MI M i c V l μ μ') (hc : c < 3) (F : FMe M μ' μ'') (e1 : jiv μ'' (M + 3 + 3) = jiv μ' (M + 3 + 3)) (e2 : jiv μ'' (M + 1) = jiv μ' (M + 1)) (k3 : K3 μ'' M) (hl : MRc μ'' M l') (m1 : MCO μ'' (M + 424) x) (m2 : rcm (mF μ'') x = V c) (m3 : rc μ'' (mA M 3) = updf (rc μ' (mA M 3)) (i * 3 + c) x) : MI M i (c + 1) V l' μ μ'' := by
  obtain ⟨a1, a2, a3, a4, a5, X, a6, a7⟩ := h
  refine ⟨a1.trans F, e1.trans a2, e2.trans a3, k3, hl, updf X c x, fun j hj => ?_, fun z => ?_⟩
  · unfold updf
    by_cases e : j = c
    · rw [if_pos e, e]; exact ⟨m1, m2⟩
    · rw [if_neg e]
      obtain ⟨y1, y2⟩ := a6 j (by omega)
      obtain ⟨y3, y4⟩ := F.fd.mco y1
      exact ⟨y3, y4.trans y2⟩
  · rw [m3]
    unfold updf
    by_cases e : z = i * 3 + c
    · rw [if_pos e, if_pos (by omega), if_pos (by omega)]
    · rw [if_neg e, a7 z]
      by_cases e2 : z / 3 = i ∧ z % 3 < c
      · rw [if_pos e2, if_pos (by omega), if_neg (by omega)]
      · rw [if_neg e2, if_neg (by omega)]
theorem mi_zero (k3 : K3 μ M) (hl : MRc μ M l) : MI M i 0 V l μ μ := ⟨FMe.refl, rfl, rfl, k3, hl, fun _ => (N 0, N 0, none, N 0), fun j hj => by omega, fun z => by rw [if_neg (by omega)]⟩
/-- a row copied into the fourth grid -/
theorem mi_copy {kk : Int32} (h : GG μ M G) (hg : g < 3) (k3 : K3 μ M) (hl : MRc μ M l) (hi : lfind kk (rG μ (mA M 3)) = some i) (hi8 : i < 8) (hq : lfind kk (G g) = some q) : MI M i 3 (fun c => cO [] (G g) (some q) c) l μ (cpR μ (mA M g) q (mA M 3) i) ∧ jC (d + 1) 196 [.ref M, .int (N g), .int (N q), .int 3, .int (N i)] μ = some (none, cpR μ (mA M g) q (mA M 3) i) := by
  obtain ⟨z1, z2, z3⟩ := h.gq hg
  have hql := lfind_lt hq
  obtain ⟨k1, k2⟩ := find_key hi
  have k4 : jiv μ (M + 3 + g) q = kk := by
    have e : lfind kk (rG μ (mA M g)) = some q := by rw [← lfind_dM, (h.2 g hg).2]; exact hq
    exact (find_key e).1
  have F : FMe M μ (cpR μ (mA M g) q (mA M 3) i) := FMg.me cpR_fr
  obtain ⟨r1, r2⟩ := rc_cpR (μ := μ) (i := q) (k := i) (mA_ok (M := M) (show 3 < 4 by decide)) (mA_ap (M := M) (g := g) (h := 3) (by omega) (by decide)) (mA_key (M := M) (g := g) (h := 3) (by omega) (by decide))
  have F0 : FMg M 3 μ (cpR μ (mA M g) q (mA M 3) i) := cpR_fr
  have iv : ∀ a, ¬ SMg M 3 a → jiv (cpR μ (mA M g) q (mA M 3) i) a = jiv μ a := fun a k => F0.iv k
  refine ⟨⟨F, ?_, iv _ (by unfold SMg; omega), cpR_ref z1.2.2.2 k3, hl.keep fun a ha => iv a (by unfold SMg; omega), fun j => rc μ (mA M g) (q * 3 + j), fun j hj => ?_, fun z => ?_⟩, r_copyRow h.1 (by omega) (by decide) (by omega) hi8 z1.2.2.2 k3⟩
  · have r2 : jiv (cpR μ (mA M g) q (mA M 3) i) (M + 3 + 3) = updf (jiv μ (M + 3 + 3)) i (jiv μ (M + 3 + g) q) := r2
    rw [r2]
    funext z
    unfold updf
    by_cases e : z = i
    · rw [if_pos e, e, k4]; exact k1.symm
    · rw [if_neg e]
  · obtain ⟨w1, w2, w3⟩ := h.cell hg hj hql
    obtain ⟨y3, y4⟩ := F.fd.mco w3
    exact ⟨y3, y4.trans w2.symm⟩
  · rw [r1 z]
    by_cases e : z / 3 = i
    · rw [if_pos e, if_pos ⟨e, by omega⟩]
    · rw [if_neg e, if_neg (fun q => e q.1)]
theorem MI.congr {V' : Nat → DC} (h : MI M i c V l μ μ') (e : ∀ j, j < c → V j = V' j) : MI M i c V' l μ μ' := by
  obtain ⟨a1, a2, a3, a4, a5, X, a6, a7⟩ := h
  exact ⟨a1, a2, a3, a4, a5, X, fun j hj => ⟨(a6 j hj).1, (a6 j hj).2.trans (e j hj)⟩, a7⟩
/-- a clash behind a row -/
theorem MI.clash {kd kk cc : Int32} (h : MI M i c V l μ μ') (hq : QS μ' M) (hl : l.length < 80) : ∃ μ'', jC d 240 [.ref M, .int kd, .int kk, .int cc] μ' = some (none, μ'') ∧ MI M i c V (l ++ [(kd, kk, cc, N 0)]) μ μ'' := by
  obtain ⟨a1, a2, a3, a4, a5, X, a6, a7⟩ := h
  obtain ⟨μ2, w1, w2, w3, w4⟩ := r_clash (d := d) (kd := kd) (kk := kk) (cc := cc) hq a5 hl
  obtain ⟨F2, iv2, rv2, rc2, kk2⟩ := clash_me w2 w3
  refine ⟨μ2, w1, a1.trans F2, (iv2 _ (by omega) (by omega)).trans a2, (iv2 _ (by omega) (by omega)).trans a3, kk2 a4, w4, X, fun j hj => ?_, fun z => by rw [rc2]; exact a7 z⟩
  obtain ⟨y1, y2⟩ := a6 j hj
  obtain ⟨y3, y4⟩ := F2.fd.mco y1
  exact ⟨y3, y4.trans y2⟩
theorem r_mergeRow {kk : Int32} (h : GG μ M G) (hr : RG μ M R) (k3 : K3 μ M) (hG : GQ μ M 3) (hl : MRc μ M l) (hn : l.length + 6 ≤ 80) (hi : lfind kk (rG μ (mA M 3)) = some i) (hk : lfind kk (G 1) ≠ none ∨ lfind kk (G 2) ≠ none) : ∃ μ', jC (d + 4) 234 [.ref M, .int kk] μ = some (none, μ') ∧ MI M i 3 (pRowC R (G 0) (G 1) (G 2) kk) (l ++ pRowK R (G 0) (G 1) (G 2) kk) μ μ' := by
  have hq := h.1
  have k13 := hq.k13
  have hi8 : i < 8 := by have := (find_key hi).2; have := hG.2.2.1; omega
  have p3 := r_placeOf (d := d + 3) hq hG kk
  rw [hi] at p3
  have p0 := h.place (d := d + 3) (g := 0) (by decide) kk
  have p1 := h.place (d := d + 3) (g := 1) (by decide) kk
  have p2 := h.place (d := d + 3) (g := 2) (by decide) kk
  have p3 : jC (d + 3) 194 [.ref M, .int 3, .int kk] μ = some (some (.int (N i)), μ) := p3
  have p0 : jC (d + 3) 194 [.ref M, .int 0, .int kk] μ = _ := p0
  have p1 : jC (d + 3) 194 [.ref M, .int 1, .int kk] μ = _ := p1
  have p2 : jC (d + 3) 194 [.ref M, .int 2, .int kk] μ = _ := p2
  have n0 := plo_ne (kk := kk) (h.gq (g := 0) (by decide)).2.2
  have n1 := plo_ne (kk := kk) (h.gq (g := 1) (by decide)).2.2
  have n2 := plo_ne (kk := kk) (h.gq (g := 2) (by decide)).2.2
  have st : jC (d + 4) 234 [.ref M, .int kk] μ = jR (d + 4) 234 28 [.ref M, .int kk, .int (N i), .int (pl (lfind kk (G 0))), .int (pl (lfind kk (G 1))), .retAddr 0, .retAddr 0] [.int (pl (lfind kk (G 2)))] μ := by
    rw [jC_run (by decide)]
    show jR (d + 4) 234 0 [.ref M, .int kk, .retAddr 0, .retAddr 0, .retAddr 0, .retAddr 0, .retAddr 0] [] μ = _
    rw [b234_0]
    simp only [gI13, gR13, pI13, pR13, rv13, k13, if_true, Option.bind_some, p3]
    show jR (d + 4) 234 6 [.ref M, .int kk, .retAddr 0, .retAddr 0, .retAddr 0, .retAddr 0, .retAddr 0] [.int (N i)] μ = _
    rw [b234_6]
    simp only [gI13, gR13, pI13, pR13, rv13, k13, if_true, Option.bind_some, p0]
    show jR (d + 4) 234 13 [.ref M, .int kk, .int (N i), .retAddr 0, .retAddr 0, .retAddr 0, .retAddr 0] [.int (pl (lfind kk (G 0)))] μ = _
    rw [b234_13]
    simp only [gI13, gR13, pI13, pR13, rv13, k13, if_true, Option.bind_some, p1]
    show jR (d + 4) 234 20 [.ref M, .int kk, .int (N i), .int (pl (lfind kk (G 0))), .retAddr 0, .retAddr 0, .retAddr 0] [.int (pl (lfind kk (G 1)))] μ = _
    rw [b234_20]
    simp only [gI13, gR13, pI13, pR13, rv13, k13, if_true, Option.bind_some, p2]
    rfl
  -- behind a copied row
  have behind : ∀ (μ1 : jM) (i1 i2 i4 i5 u : Value) (V : Nat → DC), GG μ1 M G → MI M i 3 V l μ μ1 → (∀ j, j < 3 → V j = pRowC R (G 0) (G 1) (G 2) kk j) → (lfind kk (G 1) = none ∨ lfind kk (G 2) = none) → ∃ μ', jR (d + 4) 234 106 [.ref M, .int kk, i2, .int (pl (lfind kk (G 0))), i4, i5, u] [] μ1 = some (none, μ') ∧ MI M i 3 (pRowC R (G 0) (G 1) (G 2) kk) (l ++ pRowK R (G 0) (G 1) (G 2) kk) μ μ' := by
    intro μ1 i1 i2 i4 i5 u V h1 m1 hV hno
    rw [b234_106]
    unfold pRowK
    rw [if_pos hno]
    by_cases e0 : lfind kk (G 0) = none
    · rw [if_pos (show pl (lfind kk (G 0)) = -1 by rw [n0]; exact e0), if_pos e0, List.append_nil]
      exact ⟨μ1, b234_118 .., m1.congr hV⟩
    · rw [if_neg (show ¬ pl (lfind kk (G 0)) = -1 by rw [n0]; exact e0), if_neg e0]
      obtain ⟨μ2, w1, w2⟩ := m1.clash (d := d + 3) (kd := N 2) (kk := kk) (cc := NEG) h1.1 (by omega)
      have w1 : jC (d + 3) 240 [.ref M, .int 2, .int kk, .int (-1)] μ1 = _ := w1
      simp only [gI13, gR13, pI13, pR13, rv13, h1.1.k13, if_true, Option.bind_some, w1]
      exact ⟨μ2, b234_118 .., w2.congr hV⟩
  rw [st, b234_28]
  cases e1 : lfind kk (G 1) with
  | none =>
    have h2 : lfind kk (G 2) ≠ none := hk.resolve_left (fun q => q e1)
    obtain ⟨i2, e2⟩ := Option.ne_none_iff_exists'.mp h2
    obtain ⟨m1, c1⟩ := mi_copy (d := d + 2) (g := 2) h (by decide) k3 hl hi hi8 e2
    have c1 : jC (d + 3) 196 [.ref M, .int 2, .int (N i2), .int 3, .int (N i)] μ = _ := c1
    rw [if_pos (show pl none = -1 from rfl), b234_76, if_pos (show pl none = -1 from rfl), b234_88 (hs0 := ir_ref), if_pos (show pl none = -1 from rfl), e2, b234_101 (hs0 := ir_ref)]
    simp only [gI13, gR13, pI13, pR13, rv13, k13, if_true, Option.bind_some, pl_some, c1]
    refine behind _ (.int 0) _ _ _ _ _ (m1.1.gg h) m1 (fun j hj => ?_) (Or.inl e1)
    unfold pRowC
    rw [if_pos e1, e2]
  | some i1 =>
    rw [if_neg (show ¬ pl (some i1) = -1 by rw [← e1, n1, e1]; intro q; cases q)]
    cases e2 : lfind kk (G 2) with
    | none =>
      obtain ⟨m1, c1⟩ := mi_copy (d := d + 2) (g := 1) h (by decide) k3 hl hi hi8 e1
      have c1 : jC (d + 3) 196 [.ref M, .int 1, .int (N i1), .int 3, .int (N i)] μ = _ := c1
      rw [if_pos (show pl none = -1 from rfl), b234_76, if_neg (show ¬ pl (some i1) = -1 by rw [← e1, n1, e1]; intro q; cases q), b234_88 (hs0 := ir_ref), if_neg (show ¬ pl (some i1) = -1 by rw [← e1, n1, e1]; intro q; cases q), b234_101 (hs0 := ir_ref)]
      simp only [gI13, gR13, pI13, pR13, rv13, k13, if_true, Option.bind_some, pl_some, c1]
      refine behind _ (.int 0) _ _ _ _ _ (m1.1.gg h) m1 (fun j hj => ?_) (Or.inr e2)
      unfold pRowC
      rw [if_neg (by rw [e1]; intro q; cases q), if_pos e2, e1]
    | some i2 =>
      rw [if_neg (show ¬ pl (some i2) = -1 by rw [← e2, n2, e2]; intro q; cases q)]
      have V3 : ∀ j, pCell R (G 0) (G 1) (G 2) (lfind kk (G 0)) (lfind kk (G 1)) (lfind kk (G 2)) j = pRowC R (G 0) (G 1) (G 2) kk j := fun j => by
        unfold pRowC
        rw [if_neg (by rw [e1]; intro q; cases q), if_neg (by rw [e2]; intro q; cases q)]
      have step : ∀ (c : Nat) (μ1 : jM) (l1 : List CL), c < 3 → MI M i c (pRowC R (G 0) (G 1) (G 2) kk) l1 μ μ1 → l1.length + 2 ≤ 80 → ∃ μ2, jR (d + 4) 234 45 [.ref M, .int kk, .int (N i), .int (pl (lfind kk (G 0))), .int (pl (some i1)), .int (pl (some i2)), .int (N c)] [] μ1 = jR (d + 4) 234 45 [.ref M, .int kk, .int (N i), .int (pl (lfind kk (G 0))), .int (pl (some i1)), .int (pl (some i2)), .int (N (c + 1))] [] μ2 ∧ MI M i (c + 1) (pRowC R (G 0) (G 1) (G 2) kk) (l1 ++ pClc R (G 0) (G 1) (G 2) (lfind kk (G 0)) (lfind kk (G 1)) (lfind kk (G 2)) kk c) μ μ2 := by
        intro c μ1 l1 hc m1 hn1
        have h1 := m1.1.gg h
        obtain ⟨μ2, x, w1, w2, w3, w4, w5, w6, w7, w8, w9⟩ := r_mergeCell (d := d) (kk := kk) h1 (m1.1.rg hr) m1.2.2.2.1 m1.2.2.2.2.1 hn1 hc (smG_find (kk := kk)) (smG_find (kk := kk)) (smG_find (kk := kk)) (y := i * 3 + c) (by omega)
        refine ⟨μ2, ?_, m1.step hc w2 w3 w4 w5 w6 w7 (w8.trans (V3 c)) w9⟩
        rw [e1, e2] at w1
        rw [b234_45, if_pos (by show N c < N 3; rw [N_lt (by omega) (by decide)]; omega)]
        simp only [gI13, gR13, pI13, pR13, rv13, Option.bind_some, Option.bind_none, if_true, if_false, true_or, or_true, false_or, or_false, true_and, and_true, false_and, and_false, decide_eq_true_eq, decide_true, decide_false, eq_self, not_true_eq_false, not_false_eq_true, jfit0, N_lit, N_add, N_mul, NEG_eq, pl_none, pl_some, rf_some, rf_none, jun_ref, jun_null, ir_ref, ir_null, jr_rf, jun_rf, Option.toList_some, Option.toList_none, List.nil_append, List.cons_append, Nat.mul_comm 3, h1.1.k13]
        simp only [pl_some] at w1
        rw [w1]
        show jR (d + 4) 234 69 _ [] μ2 = _
        rw [b234_69]
        simp only [N_lit, N_add]
      have cl : ∀ c, (pClc R (G 0) (G 1) (G 2) (lfind kk (G 0)) (lfind kk (G 1)) (lfind kk (G 2)) kk c).length ≤ 2 := fun c => by
        unfold pClc
        rw [List.length_append]
        split <;> split <;> simp
      have cl0 := cl 0
      have cl1 := cl 1
      obtain ⟨μ1, s1, m1⟩ := step 0 μ l (by decide) (mi_zero k3 hl) (by omega)
      obtain ⟨μ2, s2, m2⟩ := step 1 μ1 _ (by decide) m1 (by rw [List.length_append]; omega)
      obtain ⟨μ3, s3, m3⟩ := step 2 μ2 _ (by decide) m2 (by rw [List.length_append, List.length_append]; omega)
      have s1 : jR (d + 4) 234 45 [.ref M, .int kk, .int (N i), .int (pl (lfind kk (G 0))), .int (pl (some i1)), .int (pl (some i2)), .int 0] [] μ = _ := s1
      refine ⟨μ3, ?_, ?_⟩
      · rw [s1, s2, s3, b234_45, if_neg (by decide)]
      · unfold pRowK
        rw [if_neg (by rw [e1, e2]; intro q; rcases q with q | q <;> cases q)]
        rw [List.append_assoc, List.append_assoc, ← List.append_assoc (pClc R (G 0) (G 1) (G 2) (lfind kk (G 0)) (lfind kk (G 1)) (lfind kk (G 2)) kk 0)] at m3
        exact m3
end LAY
