/-! MERGING: contents and notes of one row -/
def imin (x y : Int32) : Int32 := if y < x then y else x
def imax (x y : Int32) : Int32 := if x < y then y else x
/-- a content, and whether it clashes: of base z, mine x, theirs y, by the rule ρ -/
def pCont (ρ : Nat × Nat) (z x y : DC) : (Int32 × Int32 × List Tk) × Bool :=
  if cnt x = cnt y ∨ cnt z = cnt y then (cnt x, false)
  else if cnt z = cnt x then (cnt y, false)
  else if (x.1 = N 1 ∧ y.1 = N 1) ∧ (ρ.1 = 3 ∨ ρ.1 = 4) ∧ z.1 ≠ N 2 then ((N 1, if ρ.1 = 4 then imin (x.2.1 + y.2.1 - z.2.1) (N ρ.2) else x.2.1 + y.2.1 - z.2.1, []), false)
  else (if ρ.1 = 5 then cnt z else if ρ.1 = 1 then cnt y else if 2 ≤ ρ.1 ∧ (x.1 = N 1 ∧ y.1 = N 1) ∧ x.2.1 < y.2.1 then cnt y else cnt x, true)
def pNote (z x y : Int32) : Int32 × Bool := if x = y ∨ y = z then (x, false) else if x = z then (y, false) else (imax x y, true)
section MERGE
variable {μ μ' μ'' : jM} {B D m b x t r d : Nat} {gb gx gt : DG} {R : Nat → Nat × Nat} {k : Int32} {ob ox ot om : Option Nat} {i c : Nat}
/-- behind a step of merging: what is read stays -/
def MS (μ μ' : jM) (B D m b x t r : Nat) (gb gx gt : DG) (R : Nat → Nat × Nat) : Prop := FM m μ μ' ∧ jiv μ' m = jiv μ m ∧ MX μ' B D m b x t r gb gx gt R
theorem MS.trans (a : MS μ μ' B D m b x t r gb gx gt R) (b' : MS μ' μ'' B D m b x t r gb gx gt R) : MS μ μ'' B D m b x t r gb gx gt R := ⟨a.1.trans b'.1, b'.2.1.trans a.2.1, b'.2.2⟩
theorem MS.lk (a : MS μ μ' B D m b x t r gb gx gt R) (L : LK μ m k ob ox ot om) : LK μ' m k ob ox ot om := L.keep a.2.1
theorem ms_G (h : MX μ B D m b x t r gb gx gt R) (F : FG (m + 1) μ μ') (hG : GV μ' D (m + 1)) : MS μ μ' B D m b x t r gb gx gt R ∧ cL μ' (m + 7) = cL μ (m + 7) :=
  ⟨⟨F.fm, F.iv (show ¬ (m + 1 ≤ m ∧ m < m + 1 + 6) by omega), (h.stepG F hG).1⟩, (h.stepG F hG).2⟩
theorem ms_C (h : MX μ B D m b x t r gb gx gt R) (F : FC (m + 7) μ μ') (hC : CV μ' (m + 7)) : MS μ μ' B D m b x t r gb gx gt R ∧ dG μ' (xA (m + 1)) = dG μ (xA (m + 1)) :=
  ⟨⟨F.fm, F.iv (show ¬ (m + 7 ≤ m ∧ m < m + 7 + 5) by omega), (h.stepC F hC).1⟩, (h.stepC F hC).2⟩
theorem one_small {i : Nat} (hi : i < 1000) : ∀ j, some i = some j → j < 1000 := fun j e => by cases e; exact hi
theorem mx_content {s : Nat} {q : Option Nat} (h : MX μ B D m b x t r gb gx gt R) (hs : GV μ D s) (hd : s + 6 ≤ m ∨ m + 12 ≤ s) (hi : i < 1000) (hq : ∀ j, q = some j → j < 1000) (hc : c < 3) : ∃ μ', jC (d + 1) 109 [.ref (m + 1), .ref s, .int (pl q), .int (N i), .int (N c)] μ = some (none, μ') ∧ MS μ μ' B D m b x t r gb gx gt R ∧ dG μ' (xA (m + 1)) = lset (dG μ (xA (m + 1))) (some i) c (fun w => ((cO [] (dG μ (xA s)) q c).1, (cO [] (dG μ (xA s)) q c).2.1, (cO [] (dG μ (xA s)) q c).2.2.1, w.2.2.2)) ∧ cL μ' (m + 7) = cL μ (m + 7) := by
  obtain ⟨μ', r1, r2, r3, r4⟩ := d_contentAsIn (d := d) (p := some i) h.2.1.2.1 hs (by omega) (one_small hi) hq hc
  obtain ⟨g1, g2⟩ := ms_G h r2 r3
  exact ⟨μ', r1, g1, r4, g2⟩
theorem mx_add {y z : Int32} (h : MX μ B D m b x t r gb gx gt R) (h48 : (cL μ (m + 7)).length < 48) : ∃ μ', jC d 76 [.ref (m + 7), .int y, .int k, .int z] μ = some (none, μ') ∧ MS μ μ' B D m b x t r gb gx gt R ∧ dG μ' (xA (m + 1)) = dG μ (xA (m + 1)) ∧ cL μ' (m + 7) = cL μ (m + 7) ++ [(y, k, z, N 0)] := by
  obtain ⟨μ', r1, r2, r3, r4⟩ := d_add (d := d) (k := y) (y := k) (c := z) h.2.1.1 h48
  obtain ⟨g1, g2⟩ := ms_C h r2 r3
  exact ⟨μ', r1, g1, g2, r4⟩
theorem math_min {y z : Int32} : jC d 279 [.int y, .int z] μ = some (some (.int (imin y z)), μ) := by
  rw [jC_run (by decide)]
  show jR d 279 0 [.int y, .int z] [] μ = _
  rw [math_R (Or.inl rfl), if_pos rfl]; rfl
theorem math_max {y z : Int32} : jC d 280 [.int y, .int z] μ = some (some (.int (imax y z)), μ) := by
  rw [jC_run (by decide)]
  show jR d 280 0 [.int y, .int z] [] μ = _
  rw [math_R (Or.inr rfl), if_neg (show ¬ (280 : Nat) = 279 by decide)]; rfl
theorem d_areNumbers (h : MX μ B D m b x t r gb gx gt R) (L : LK μ m k ob ox ot om) (sx : ∀ j, ox = some j → j < 1000) (st : ∀ j, ot = some j → j < 1000) (hc : c < 3) : jC (d + 2) 118 [.ref m, .int (N c)] μ = some (some (.int (pN ((cO [] gx ox c).1 = N 1 ∧ (cO [] gt ot c).1 = N 1))), μ) := by
  have t1 := d_kindAt (d := d) h.2.1.2.2.2.1 sx hc
  have t2 := d_kindAt (d := d) h.2.1.2.2.2.2.1 st hc
  rw [h.2.2.1.2.1] at t1
  rw [h.2.2.1.2.2.1] at t2
  rw [jC_run (by decide)]
  show jR (d + 2) 118 0 [.ref m, .int (N c)] [] μ = _
  simp only [b118_0, b118_12, b118_28, b118_36, b118_37, gI7, gR7, pI7, pR7, rv7, gI6, gR6, pI6, pR6, rv6, aI_eq, aB_eq, aR_eq, sI_eq, sB_eq, sR_eq, Option.bind_some, Option.bind_none, if_true, if_false, true_or, or_true, false_or, or_false, true_and, and_true, false_and, and_false, decide_eq_true_eq, decide_true, decide_false, eq_self, not_true_eq_false, not_false_eq_true, jfit0, N_lit, N_add, N_mul, NEG_eq, pl_none, pl_some, rf_some, rf_none, jun_ref, jun_null, ir_ref, ir_null, jr_rf, jun_rf, Option.toList_some, Option.toList_none, List.nil_append, List.cons_append, h.1, L.2.2.1, L.2.2.2.1, h.2.1.2.2.2.1.2.1.1, h.2.1.2.2.2.2.1.2.1.1, t1, t2, show jrf 4 (N 0) = true from rfl, show jrf 4 (N 1) = true from rfl]
  by_cases e1 : (cO [] gx ox c).1 = N 1
  · by_cases e2 : (cO [] gt ot c).1 = N 1
    · rw [if_pos e1, if_pos e2, pN_pos ⟨e1, e2⟩]
    · rw [if_pos e1, if_neg e2, pN_neg (fun g => e2 g.2)]
  · rw [if_neg e1, pN_neg (fun g => e1 g.1)]
theorem imin_top {y : Int32} : imin y (N 2147483647) = y := by
  unfold imin
  rw [if_neg]
  intro h
  have h1 := Int32.lt_iff_toInt_lt.mp h
  rw [N_toInt (by decide)] at h1
  have := Int32.toInt_lt y
  omega
theorem d_mergeChanged (h : MX μ B D m b x t r gb gx gt R) (L : LK μ m k ob ox ot (some i)) (hi : i < 1000) (sb : ∀ j, ob = some j → j < 1000) (sx : ∀ j, ox = some j → j < 1000) (st : ∀ j, ot = some j → j < 1000) (hc : c < 3) (h48 : (cL μ (m + 7)).length < 48) (n1 : ¬ (cnt (cO [] gx ox c) = cnt (cO [] gt ot c) ∨ cnt (cO [] gb ob c) = cnt (cO [] gt ot c))) (n2 : ¬ cnt (cO [] gb ob c) = cnt (cO [] gx ox c)) :
    ∃ μ', jC (d + 2) 119 [.ref m, .int (N c), .int (pN ((cO [] gx ox c).1 = N 1 ∧ (cO [] gt ot c).1 = N 1))] μ = some (none, μ') ∧ MS μ μ' B D m b x t r gb gx gt R ∧ dG μ' (xA (m + 1)) = lset (dG μ (xA (m + 1))) (some i) c (fun w => ((pCont (R c) (cO [] gb ob c) (cO [] gx ox c) (cO [] gt ot c)).1.1, (pCont (R c) (cO [] gb ob c) (cO [] gx ox c) (cO [] gt ot c)).1.2.1, (pCont (R c) (cO [] gb ob c) (cO [] gx ox c) (cO [] gt ot c)).1.2.2, w.2.2.2)) ∧ cL μ' (m + 7) = cL μ (m + 7) ++ (if (pCont (R c) (cO [] gb ob c) (cO [] gx ox c) (cO [] gt ot c)).2 then [(N 1, k, N c, N 0)] else []) := by
  obtain ⟨ra, rb, rc', rd⟩ := h.2.1.2.2.2.2.2.1.at hc
  have eR : rL μ r c = R c := by rw [h.2.2.1.2.2.2]
  rw [eR] at ra rb rc' rd
  have t1 := d_numberAt (d := d) h.2.1.2.2.2.1 sx hc
  have t2 := d_numberAt (d := d) h.2.1.2.2.2.2.1 st hc
  have t3 := d_kindAt (d := d) h.2.1.2.2.1 sb hc
  have t4 := d_numberAt (d := d) h.2.1.2.2.1 sb hc
  rw [h.2.2.1.2.1] at t1
  rw [h.2.2.1.2.2.1] at t2
  rw [h.2.2.1.1] at t3 t4
  have is := fun (μ1 : jM) (h1 : MX μ1 B D m b x t r gb gx gt R) (y : Nat) (hy : y < 6) => by
    have q := d_isOf (d := d) (c := c) (y := y) h1.2.1.2.2.2.2.2.2 h1.2.1.2.2.2.2.2.1 hc hy
    rw [h1.2.2.1.2.2.2] at q
    exact q
  obtain ⟨hk0, hr0, hr1, hr2, hr3, hr4, hr5⟩ := h.1
  -- what clashes
  have clashes : ∀ (u5 u6 : Value) , (pCont (R c) (cO [] gb ob c) (cO [] gx ox c) (cO [] gt ot c)) = (if (R c).1 = 5 then cnt (cO [] gb ob c) else if (R c).1 = 1 then cnt (cO [] gt ot c) else if 2 ≤ (R c).1 ∧ ((cO [] gx ox c).1 = N 1 ∧ (cO [] gt ot c).1 = N 1) ∧ (cO [] gx ox c).2.1 < (cO [] gt ot c).2.1 then cnt (cO [] gt ot c) else cnt (cO [] gx ox c), true) → ∃ μ', jR (d + 2) 119 128 [.ref m, .int (N c), .int (pN ((cO [] gx ox c).1 = N 1 ∧ (cO [] gt ot c).1 = N 1)), .int (cO [] gx ox c).2.1, .int (cO [] gt ot c).2.1, u5, u6] [] μ = some (none, μ') ∧ MS μ μ' B D m b x t r gb gx gt R ∧ dG μ' (xA (m + 1)) = lset (dG μ (xA (m + 1))) (some i) c (fun w => ((pCont (R c) (cO [] gb ob c) (cO [] gx ox c) (cO [] gt ot c)).1.1, (pCont (R c) (cO [] gb ob c) (cO [] gx ox c) (cO [] gt ot c)).1.2.1, (pCont (R c) (cO [] gb ob c) (cO [] gx ox c) (cO [] gt ot c)).1.2.2, w.2.2.2)) ∧ cL μ' (m + 7) = cL μ (m + 7) ++ (if (pCont (R c) (cO [] gb ob c) (cO [] gx ox c) (cO [] gt ot c)).2 then [(N 1, k, N c, N 0)] else []) := by
    intro u5 u6 hp
    obtain ⟨μ1, a1, a2, a3, a4⟩ := mx_add (d := d + 1) (k := k) (y := N 1) (z := N c) h h48
    have h1 := a2.2.2
    have L1 := a2.lk L
    obtain ⟨fb1, fb2⟩ := (show GV μ1 D b ∧ dG μ1 (xA b) = gb from ⟨h1.2.1.2.2.1, h1.2.2.1.1⟩)
    obtain ⟨fx1, fx2⟩ := (show GV μ1 D x ∧ dG μ1 (xA x) = gx from ⟨h1.2.1.2.2.2.1, h1.2.2.1.2.1⟩)
    obtain ⟨ft1, ft2⟩ := (show GV μ1 D t ∧ dG μ1 (xA t) = gt from ⟨h1.2.1.2.2.2.2.1, h1.2.2.1.2.2.1⟩)
    obtain ⟨mb, b1, b2, b3, b4⟩ := mx_content (d := d) (q := ob) h1 fb1 h.2.2.2.2.2.1 hi sb hc
    obtain ⟨mx, x1, x2, x3, x4⟩ := mx_content (d := d) (q := ox) h1 fx1 h.2.2.2.2.2.2.1 hi sx hc
    obtain ⟨mt, y1, y2, y3, y4⟩ := mx_content (d := d) (q := ot) h1 ft1 h.2.2.2.2.2.2.2.1 hi st hc
    rw [fb2, a3] at b3
    rw [fx2, a3] at x3
    rw [ft2, a3] at y3
    have i5 := is μ1 h1 5 (by decide)
    have i1 := is μ1 h1 1 (by decide)
    have i2 := is μ1 h1 2 (by decide)
    have sh1 := h1.1
    have cc1 : jk μ1 (m + 7) = 4 := h1.2.1.1.1.1
    have cc0 : jk μ (m + 7) = 4 := h.2.1.1.1.1
    have gm1 : jk μ1 (m + 1) = 6 := h1.2.1.2.1.2.1.1.1
    have rr1 : jk μ1 r = 8 := h1.2.1.2.2.2.2.2.1.1.1
    have base : (R c).1 = 5 → ∃ μ', jR (d + 2) 119 150 [.ref m, .int (N c), .int (pN ((cO [] gx ox c).1 = N 1 ∧ (cO [] gt ot c).1 = N 1)), .int (cO [] gx ox c).2.1, .int (cO [] gt ot c).2.1, u5, u6] [.int (N 1)] μ1 = some (none, μ') ∧ μ' = mb := by
      intro _
      refine ⟨mb, ?_, rfl⟩
      simp only [b119_150, gI7, gR7, pI7, pR7, rv7, gI6, gR6, pI6, pR6, rv6, aI_eq, aB_eq, aR_eq, sI_eq, sB_eq, sR_eq, Option.bind_some, Option.bind_none, if_true, if_false, true_or, or_true, false_or, or_false, true_and, and_true, false_and, and_false, decide_eq_true_eq, decide_true, decide_false, eq_self, not_true_eq_false, not_false_eq_true, jfit0, N_lit, N_add, N_mul, NEG_eq, pl_none, pl_some, rf_some, rf_none, jun_ref, jun_null, ir_ref, ir_null, jr_rf, jun_rf, Option.toList_some, Option.toList_none, List.nil_append, List.cons_append, sh1, L1.2.1, L1.2.2.2.2, n10, gm1, b1, b119_173, b119_253]
    have theirs : ∀ (v2 v3 v4 v5 v6 : Value), jR (d + 2) 119 210 [.ref m, .int (N c), v2, v3, v4, v5, v6] [] μ1 = some (none, mt) := by
      intro v2 v3 v4 v5 v6
      simp only [b119_210, gI7, gR7, pI7, pR7, rv7, gI6, gR6, pI6, pR6, rv6, aI_eq, aB_eq, aR_eq, sI_eq, sB_eq, sR_eq, Option.bind_some, Option.bind_none, if_true, if_false, true_or, or_true, false_or, or_false, true_and, and_true, false_and, and_false, decide_eq_true_eq, decide_true, decide_false, eq_self, not_true_eq_false, not_false_eq_true, jfit0, N_lit, N_add, N_mul, NEG_eq, pl_none, pl_some, rf_some, rf_none, jun_ref, jun_null, ir_ref, ir_null, jr_rf, jun_rf, Option.toList_some, Option.toList_none, List.nil_append, List.cons_append, sh1, L1.2.2.2.1, L1.2.2.2.2, gm1, y1, b119_230, b119_253]
    have mine : ∀ (v2 v3 v4 v5 v6 : Value), jR (d + 2) 119 233 [.ref m, .int (N c), v2, v3, v4, v5, v6] [] μ1 = some (none, mx) := by
      intro v2 v3 v4 v5 v6
      simp only [b119_233, gI7, gR7, pI7, pR7, rv7, gI6, gR6, pI6, pR6, rv6, aI_eq, aB_eq, aR_eq, sI_eq, sB_eq, sR_eq, Option.bind_some, Option.bind_none, if_true, if_false, true_or, or_true, false_or, or_false, true_and, and_true, false_and, and_false, decide_eq_true_eq, decide_true, decide_false, eq_self, not_true_eq_false, not_false_eq_true, jfit0, N_lit, N_add, N_mul, NEG_eq, pl_none, pl_some, rf_some, rf_none, jun_ref, jun_null, ir_ref, ir_null, jr_rf, jun_rf, Option.toList_some, Option.toList_none, List.nil_append, List.cons_append, sh1, L1.2.2.1, L1.2.2.2.2, gm1, x1, b119_253]
    rw [b119_128]
    simp only [gI7, gR7, pI7, pR7, rv7, gI6, gR6, pI6, pR6, rv6, gI4, gR4, pI4, pR4, rv4, aI_eq, aB_eq, aR_eq, sI_eq, sB_eq, sR_eq, Option.bind_some, Option.bind_none, if_true, if_false, true_or, or_true, false_or, or_false, true_and, and_true, false_and, and_false, decide_eq_true_eq, decide_true, decide_false, eq_self, not_true_eq_false, not_false_eq_true, jfit0, N_lit, N_add, N_mul, NEG_eq, pl_none, pl_some, rf_some, rf_none, jun_ref, jun_null, ir_ref, ir_null, jr_rf, jun_rf, Option.toList_some, Option.toList_none, List.nil_append, List.cons_append, hk0, hr1, L.1, cc0, a1, b119_141, gI8, gR8, pI8, pR8, rv8, sh1, rr1, i5]
    have key : ∀ (μ' : jM) (C : Int32 × Int32 × List Tk), (if (R c).1 = 5 then cnt (cO [] gb ob c) else if (R c).1 = 1 then cnt (cO [] gt ot c) else if 2 ≤ (R c).1 ∧ ((cO [] gx ox c).1 = N 1 ∧ (cO [] gt ot c).1 = N 1) ∧ (cO [] gx ox c).2.1 < (cO [] gt ot c).2.1 then cnt (cO [] gt ot c) else cnt (cO [] gx ox c)) = C → MS μ1 μ' B D m b x t r gb gx gt R → dG μ' (xA (m + 1)) = lset (dG μ (xA (m + 1))) (some i) c (fun w => (C.1, C.2.1, C.2.2, w.2.2.2)) → cL μ' (m + 7) = cL μ1 (m + 7) → MS μ μ' B D m b x t r gb gx gt R ∧ dG μ' (xA (m + 1)) = lset (dG μ (xA (m + 1))) (some i) c (fun w => ((pCont (R c) (cO [] gb ob c) (cO [] gx ox c) (cO [] gt ot c)).1.1, (pCont (R c) (cO [] gb ob c) (cO [] gx ox c) (cO [] gt ot c)).1.2.1, (pCont (R c) (cO [] gb ob c) (cO [] gx ox c) (cO [] gt ot c)).1.2.2, w.2.2.2)) ∧ cL μ' (m + 7) = cL μ (m + 7) ++ (if (pCont (R c) (cO [] gb ob c) (cO [] gx ox c) (cO [] gt ot c)).2 then [(N 1, k, N c, N 0)] else []) := by
      intro μ' C q1 q2 q3 q4
      rw [hp, q1]
      exact ⟨a2.trans q2, q3, by rw [q4, a4]; rfl⟩
    by_cases e5 : (R c).1 = 5
    · obtain ⟨μ', z1, rfl⟩ := base e5
      rw [pN_pos (show isOfN (R c).1 5 by unfold isOfN; omega)]
      exact ⟨_, z1, key _ _ (if_pos e5) b2 b3 b4⟩
    · rw [pN_neg (show ¬ isOfN (R c).1 5 by unfold isOfN; omega)]
      simp only [b119_150, gI7, gR7, pI7, pR7, rv7, gI6, gR6, pI6, pR6, rv6, gI8, gR8, pI8, pR8, rv8, aI_eq, aB_eq, aR_eq, sI_eq, sB_eq, sR_eq, Option.bind_some, Option.bind_none, if_true, if_false, true_or, or_true, false_or, or_false, true_and, and_true, false_and, and_false, decide_eq_true_eq, decide_true, decide_false, eq_self, not_true_eq_false, not_false_eq_true, jfit0, N_lit, N_add, N_mul, NEG_eq, pl_none, pl_some, rf_some, rf_none, jun_ref, jun_null, ir_ref, ir_null, jr_rf, jun_rf, Option.toList_some, Option.toList_none, List.nil_append, List.cons_append, sh1, rr1, i1, b119_185]
      by_cases e1 : (R c).1 = 1
      · simp only [pN_pos (show isOfN (R c).1 1 by unfold isOfN; omega), n10, if_false]
        exact ⟨mt, theirs _ _ _ _ _, key _ _ (by rw [if_neg e5, if_pos e1]) y2 y3 y4⟩
      · simp only [pN_neg (show ¬ isOfN (R c).1 1 by unfold isOfN; omega), if_true, gI7, gR7, pI7, pR7, rv7, gI6, gR6, pI6, pR6, rv6, gI8, gR8, pI8, pR8, rv8, aI_eq, aB_eq, aR_eq, sI_eq, sB_eq, sR_eq, Option.bind_some, Option.bind_none, if_true, if_false, true_or, or_true, false_or, or_false, true_and, and_true, false_and, and_false, decide_eq_true_eq, decide_true, decide_false, eq_self, not_true_eq_false, not_false_eq_true, jfit0, N_lit, N_add, N_mul, NEG_eq, pl_none, pl_some, rf_some, rf_none, jun_ref, jun_null, ir_ref, ir_null, jr_rf, jun_rf, Option.toList_some, Option.toList_none, List.nil_append, List.cons_append, sh1, rr1, i2, b119_197]
        by_cases e2 : 2 ≤ (R c).1
        · simp only [pN_pos (show isOfN (R c).1 2 by unfold isOfN; omega), n10, if_false]
          by_cases e3 : (cO [] gx ox c).1 = N 1 ∧ (cO [] gt ot c).1 = N 1
          · simp only [pN_pos e3, n10, if_false]
            by_cases e4 : (cO [] gx ox c).2.1 < (cO [] gt ot c).2.1
            · simp only [e4, if_true]
              exact ⟨mt, theirs _ _ _ _ _, key _ _ (by rw [if_neg e5, if_neg e1, if_pos ⟨e2, e3, e4⟩]) y2 y3 y4⟩
            · simp only [e4, if_false]
              exact ⟨mx, mine _ _ _ _ _, key _ _ (by rw [if_neg e5, if_neg e1, if_neg (fun g => e4 g.2.2)]) x2 x3 x4⟩
          · simp only [pN_neg e3, if_true]
            exact ⟨mx, mine _ _ _ _ _, key _ _ (by rw [if_neg e5, if_neg e1, if_neg (fun g => e3 g.2.1)]) x2 x3 x4⟩
        · simp only [pN_neg (show ¬ isOfN (R c).1 2 by unfold isOfN; omega), if_true]
          exact ⟨mx, mine _ _ _ _ _, key _ _ (by rw [if_neg e5, if_neg e1, if_neg (fun g => e2 g.1)]) x2 x3 x4⟩
  have unf : pCont (R c) (cO [] gb ob c) (cO [] gx ox c) (cO [] gt ot c) = if ((cO [] gx ox c).1 = N 1 ∧ (cO [] gt ot c).1 = N 1) ∧ ((R c).1 = 3 ∨ (R c).1 = 4) ∧ (cO [] gb ob c).1 ≠ N 2 then ((N 1, if (R c).1 = 4 then imin ((cO [] gx ox c).2.1 + (cO [] gt ot c).2.1 - (cO [] gb ob c).2.1) (N (R c).2) else (cO [] gx ox c).2.1 + (cO [] gt ot c).2.1 - (cO [] gb ob c).2.1, []), false)
      else (if (R c).1 = 5 then cnt (cO [] gb ob c) else if (R c).1 = 1 then cnt (cO [] gt ot c) else if 2 ≤ (R c).1 ∧ ((cO [] gx ox c).1 = N 1 ∧ (cO [] gt ot c).1 = N 1) ∧ (cO [] gx ox c).2.1 < (cO [] gt ot c).2.1 then cnt (cO [] gt ot c) else cnt (cO [] gx ox c), true) := by
    unfold pCont
    rw [if_neg n1, if_neg n2]
  have i3 := is μ h 3 (by decide)
  have i4 := is μ h 4 (by decide)
  have gx6 : jk μ x = 6 := h.2.1.2.2.2.1.2.1.1.1
  have gt6 : jk μ t = 6 := h.2.1.2.2.2.2.1.2.1.1.1
  have gb6 : jk μ b = 6 := h.2.1.2.2.1.2.1.1.1
  have rr0 : jk μ r = 8 := h.2.1.2.2.2.2.2.1.1.1
  have gm0 : jk μ (m + 1) = 6 := h.2.1.2.1.2.1.1.1
  rw [jC_run (by decide)]
  show ∃ μ', jR (d + 2) 119 0 [.ref m, .int (N c), .int (pN ((cO [] gx ox c).1 = N 1 ∧ (cO [] gt ot c).1 = N 1)), .retAddr 0, .retAddr 0, .retAddr 0, .retAddr 0] [] μ = _ ∧ _
  simp only [b119_0, b119_12, b119_25, gI7, gR7, pI7, pR7, rv7, gI6, gR6, pI6, pR6, rv6, aI_eq, aB_eq, aR_eq, sI_eq, sB_eq, sR_eq, Option.bind_some, Option.bind_none, if_true, if_false, true_or, or_true, false_or, or_false, true_and, and_true, false_and, and_false, decide_eq_true_eq, decide_true, decide_false, eq_self, not_true_eq_false, not_false_eq_true, jfit0, N_lit, N_add, N_mul, NEG_eq, pl_none, pl_some, rf_some, rf_none, jun_ref, jun_null, ir_ref, ir_null, jr_rf, jun_rf, Option.toList_some, Option.toList_none, List.nil_append, List.cons_append, hk0, hr3, hr4, L.2.2.1, L.2.2.2.1, gx6, gt6, t1, t2]
  by_cases e3 : (cO [] gx ox c).1 = N 1 ∧ (cO [] gt ot c).1 = N 1
  · by_cases e34 : (R c).1 = 3 ∨ (R c).1 = 4
    · by_cases ez : (cO [] gb ob c).1 = N 2
      · have z := clashes (.retAddr 0) (.retAddr 0) (by rw [unf, if_neg (fun g => g.2.2 ez)])
        simp only [pN_pos e3] at z ⊢
        simp only [n10, if_false, gI7, gR7, pI7, pR7, rv7, gI6, gR6, pI6, pR6, rv6, gI8, gR8, pI8, pR8, rv8, aI_eq, aB_eq, aR_eq, sI_eq, sB_eq, sR_eq, Option.bind_some, Option.bind_none, if_true, if_false, true_or, or_true, false_or, or_false, true_and, and_true, false_and, and_false, decide_eq_true_eq, decide_true, decide_false, eq_self, not_true_eq_false, not_false_eq_true, jfit0, N_lit, N_add, N_mul, NEG_eq, pl_none, pl_some, rf_some, rf_none, jun_ref, jun_null, ir_ref, ir_null, jr_rf, jun_rf, Option.toList_some, Option.toList_none, List.nil_append, List.cons_append, hk0, hr5, hr2, rr0, i3, pN_pos (show isOfN (R c).1 3 by unfold isOfN; omega), b119_40, L.2.1, gb6, t3, b119_55, ez]
        exact z
      · -- it adds
        have hp : pCont (R c) (cO [] gb ob c) (cO [] gx ox c) (cO [] gt ot c) = ((N 1, if (R c).1 = 4 then imin ((cO [] gx ox c).2.1 + (cO [] gt ot c).2.1 - (cO [] gb ob c).2.1) (N (R c).2) else (cO [] gx ox c).2.1 + (cO [] gt ot c).2.1 - (cO [] gb ob c).2.1, []), false) := by
          rw [unf, if_pos ⟨e3, e34, ez⟩]
        have put : ∀ v : Int32, ∃ μ', jC (d + 1) 91 [.ref (m + 1), .int (N i), .int (N c), .int (N 1), .int v, .null] μ = some (none, μ') ∧ MS μ μ' B D m b x t r gb gx gt R ∧ dG μ' (xA (m + 1)) = lset (dG μ (xA (m + 1))) (some i) c (fun w => (N 1, v, [], w.2.2.2)) ∧ cL μ' (m + 7) = cL μ (m + 7) := by
          intro v
          obtain ⟨μ', q1, q2, q3, q4⟩ := d_setContent (d := d) (p := some i) (k := N 1) (n := v) (f := none) h.2.1.2.1 (one_small hi) hc (Or.inr (Or.inl ⟨rfl, rfl⟩))
          obtain ⟨g1, g2⟩ := ms_G h q2 q3
          exact ⟨μ', q1, g1, q4, g2⟩
        rw [hp]
        have bc : c < 2147483648 := by omega
        simp only [pN_pos e3, n10, if_false, gI7, gR7, pI7, pR7, rv7, gI6, gR6, pI6, pR6, rv6, gI8, gR8, pI8, pR8, rv8, aI_eq, aB_eq, aR_eq, sI_eq, sB_eq, sR_eq, Option.bind_some, Option.bind_none, if_true, if_false, true_or, or_true, false_or, or_false, true_and, and_true, false_and, and_false, decide_eq_true_eq, decide_true, decide_false, eq_self, not_true_eq_false, not_false_eq_true, jfit0, N_lit, N_add, N_mul, NEG_eq, pl_none, pl_some, rf_some, rf_none, jun_ref, jun_null, ir_ref, ir_null, jr_rf, jun_rf, Option.toList_some, Option.toList_none, List.nil_append, List.cons_append, hk0, hr5, hr2, rr0, i3, pN_pos (show isOfN (R c).1 3 by unfold isOfN; omega), b119_40, L.2.1, gb6, t3, b119_55, ez, t4, b119_75, i4]
        by_cases e4 : (R c).1 = 4
        · obtain ⟨μ', q1, q2, q3, q4⟩ := put (imin ((cO [] gx ox c).2.1 + (cO [] gt ot c).2.1 - (cO [] gb ob c).2.1) (N (R c).2))
          refine ⟨μ', ?_, q2, by rw [q3, if_pos e4], by rw [q4]; simp⟩
          have rk2 : jrv μ r 1 = some (r + 2) := h.2.1.2.2.2.2.2.1.2.1.2
          have rk3 : jk μ (r + 2) = 20 := h.2.1.2.2.2.2.2.1.1.2.2.2.1
          have rk4 : jl μ (r + 2) = 3 := h.2.1.2.2.2.2.2.1.1.2.2.2.2
          simp only [pN_pos (show isOfN (R c).1 4 by unfold isOfN; omega), b119_87, n10, if_false, gI7, gR7, pI7, pR7, rv7, gI6, gR6, pI6, pR6, rv6, gI8, gR8, pI8, pR8, rv8, aI_eq, aB_eq, aR_eq, sI_eq, sB_eq, sR_eq, Option.bind_some, Option.bind_none, if_true, if_false, true_or, or_true, false_or, or_false, true_and, and_true, false_and, and_false, decide_eq_true_eq, decide_true, decide_false, eq_self, not_true_eq_false, not_false_eq_true, jfit0, N_lit, N_add, N_mul, NEG_eq, pl_none, pl_some, rf_some, rf_none, jun_ref, jun_null, ir_ref, ir_null, jr_rf, jun_rf, Option.toList_some, Option.toList_none, List.nil_append, List.cons_append, hk0, hr5, hr0, rr0, rk2, rk3, rk4, jinb_N bc, hc, N_nat bc, rb, b119_104, L.2.2.2.2, math_min, b119_123, gm0, q1, b119_127]
        · obtain ⟨μ', q1, q2, q3, q4⟩ := put ((cO [] gx ox c).2.1 + (cO [] gt ot c).2.1 - (cO [] gb ob c).2.1)
          refine ⟨μ', ?_, q2, by rw [q3, if_neg e4], by rw [q4]; simp⟩
          simp only [pN_neg (show ¬ isOfN (R c).1 4 by unfold isOfN; omega), b119_87, if_true, gI7, gR7, pI7, pR7, rv7, gI6, gR6, pI6, pR6, rv6, gI8, gR8, pI8, pR8, rv8, aI_eq, aB_eq, aR_eq, sI_eq, sB_eq, sR_eq, Option.bind_some, Option.bind_none, if_true, if_false, true_or, or_true, false_or, or_false, true_and, and_true, false_and, and_false, decide_eq_true_eq, decide_true, decide_false, eq_self, not_true_eq_false, not_false_eq_true, jfit0, N_lit, N_add, N_mul, NEG_eq, pl_none, pl_some, rf_some, rf_none, jun_ref, jun_null, ir_ref, ir_null, jr_rf, jun_rf, Option.toList_some, Option.toList_none, List.nil_append, List.cons_append, hk0, hr0, b119_104, L.2.2.2.2, math_min, imin_top, b119_123, gm0, q1, b119_127]
    · have z := clashes (.retAddr 0) (.retAddr 0) (by rw [unf, if_neg (fun g => e34 g.2.1)])
      simp only [pN_pos e3] at z ⊢
      simp only [n10, if_false, gI7, gR7, pI7, pR7, rv7, gI6, gR6, pI6, pR6, rv6, gI8, gR8, pI8, pR8, rv8, aI_eq, aB_eq, aR_eq, sI_eq, sB_eq, sR_eq, Option.bind_some, Option.bind_none, if_true, if_false, true_or, or_true, false_or, or_false, true_and, and_true, false_and, and_false, decide_eq_true_eq, decide_true, decide_false, eq_self, not_true_eq_false, not_false_eq_true, jfit0, N_lit, N_add, N_mul, NEG_eq, pl_none, pl_some, rf_some, rf_none, jun_ref, jun_null, ir_ref, ir_null, jr_rf, jun_rf, Option.toList_some, Option.toList_none, List.nil_append, List.cons_append, hk0, hr5, rr0, i3, pN_neg (show ¬ isOfN (R c).1 3 by unfold isOfN; omega), b119_40]
      exact z
  · have z := clashes (.retAddr 0) (.retAddr 0) (by rw [unf, if_neg (fun g => e3 g.1)])
    simp only [pN_neg e3] at z ⊢
    simp only [if_true]
    exact z
end MERGE
