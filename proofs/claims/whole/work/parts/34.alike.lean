/-! GRIDS AS THEY ARE READ: formulas by their tokens; rows alike; cells unlike -/
def rcm {φ ψ : Type} (F : φ → ψ) (x : RC φ) : RC ψ := (x.1, x.2.1, F x.2.2.1, x.2.2.2)
def rwm {φ ψ : Type} (F : φ → ψ) (w : RW φ) : RW ψ := (w.1, rcm F w.2.1, rcm F w.2.2.1, rcm F w.2.2.2)
abbrev DC : Type := RC (List Tk)
abbrev DG : Type := List (RW (List Tk))
/-- a grid as it is read -/
def dG (μ : jM) (A : GA) : DG := (rG μ A).map (rwm (dF μ))
/-- a content -/
def cnt {φ : Type} (x : RC φ) : Int32 × Int32 × φ := (x.1, x.2.1, x.2.2.1)
/-- rows' cells are good -/
def rowsOK (μ : jM) (D : Nat) (l : List (RW (Option Nat))) : Prop := ∀ w ∈ l, cellOK μ D w.2.1 ∧ cellOK μ D w.2.2.1 ∧ cellOK μ D w.2.2.2
section DEC
variable {φ ψ : Type} {F : φ → ψ} {l : List (RW φ)}
theorem rcol_rwm {w : RW φ} {c : Nat} : rcol (rwm F w) c = rcm F (rcol w c) := by
  unfold rcol rwm
  split
  · rfl
  · split <;> rfl
theorem cO_map {z : φ} {z' : ψ} (hz : F z = z') {p : Option Nat} {c : Nat} : cO z' (l.map (rwm F)) p c = rcm F (cO z l p c) := by
  unfold cO
  cases p with
  | none => simp only [Option.bind_none, Option.map_none, Option.getD_none]; rw [← hz]; rfl
  | some i =>
    simp only [Option.bind_some, List.getElem?_map]
    cases l[i]? with
    | none => simp only [Option.map_none, Option.getD_none]; rw [← hz]; rfl
    | some w => simp only [Option.map_some, Option.getD_some]; exact rcol_rwm
theorem lfind_map {k : Int32} : lfind k (l.map (rwm F)) = lfind k l := by
  unfold lfind
  rw [List.findIdx?_map]; rfl
theorem keyO_map {i : Nat} : keyO (l.map (rwm F)) i = keyO l i := by
  unfold keyO
  rw [List.getElem?_map]
  cases l[i]? <;> rfl
end DEC
section ALIKE
variable {μ μ' : jM} {D g h d : Nat} {p q : Option Nat} {c : Nat}
theorem cO_dG {A : GA} : cO [] (dG μ A) p c = rcm (dF μ) (cO none (rG μ A) p c) := cO_map (F := dF μ) (z := none) (z' := []) rfl
theorem len_dG {A : GA} : (dG μ A).length = vN μ A := by unfold dG; rw [List.length_map, len_rG]
theorem lfind_dG {A : GA} {k : Int32} : lfind k (dG μ A) = lfind k (rG μ A) := lfind_map
theorem keyO_dG {A : GA} {i : Nat} : keyO (dG μ A) i = keyO (rG μ A) i := keyO_map
theorem alC_cnt {x y : RC (Option Nat)} : alC μ x y ↔ cnt (rcm (dF μ) x) = cnt (rcm (dF μ) y) := by
  unfold alC cnt rcm
  simp only [Prod.mk.injEq]
theorem rowsOK.cO {l : List (RW (Option Nat))} (h : rowsOK μ D l) : cellOK μ D (cO none l p c) := by
  unfold _root_.Jvm.Pilot.@@N@@.cO
  cases p with
  | none => exact Or.inl ⟨rfl, rfl, rfl⟩
  | some i =>
    simp only [Option.bind_some]
    cases e : l[i]? with
    | none => exact Or.inl ⟨rfl, rfl, rfl⟩
    | some w =>
      have hw := h w (List.mem_of_getElem? e)
      show cellOK μ D (rcol w c)
      unfold rcol
      split
      · exact hw.1
      · split
        · exact hw.2.1
        · exact hw.2.2
theorem x_isAl (hs : Gs μ g) (hn : Gn μ g) (hs' : Gs μ h) (hn' : Gn μ h) (hp : ∀ i, p = some i → i < 1000) (hq : ∀ i, q = some i → i < 1000) (hc : c < 3) (ho : rowsOK μ D (rG μ (xA g))) (ho' : rowsOK μ D (rG μ (xA h))) : jC (d + 2) 107 [.ref g, .int (pl p), .int (N c), .ref h, .int (pl q)] μ = some (some (.int (pN (cnt (cO [] (dG μ (xA g)) p c) = cnt (cO [] (dG μ (xA h)) q c)))), μ) := by
  rw [x_isAlike hs hn hs' hn' hp hq hc ho.cO ho'.cO, pN_congr alC_cnt, cO_dG, cO_dG]
theorem x_isRowAlike (hs : Gs μ g) (hn : Gn μ g) (hs' : Gs μ h) (hn' : Gn μ h) (hp : ∀ i, p = some i → i < 1000) (hq : ∀ i, q = some i → i < 1000) (ho : rowsOK μ D (rG μ (xA g))) (ho' : rowsOK μ D (rG μ (xA h))) : jC (d + 3) 106 [.ref g, .int (pl p), .ref h, .int (pl q)] μ = some (some (.int (pN (∀ c, c < 3 → cO [] (dG μ (xA g)) p c = cO [] (dG μ (xA h)) q c))), μ) := by
  have b3 : (3 : Nat) < 2147483648 := by decide
  have full : ∀ c, (cnt (cO [] (dG μ (xA g)) p c) = cnt (cO [] (dG μ (xA h)) q c) ∧ (cO none (rG μ (xA g)) p c).2.2.2 = (cO none (rG μ (xA h)) q c).2.2.2) ↔ cO [] (dG μ (xA g)) p c = cO [] (dG μ (xA h)) q c := by
    intro c
    rw [cO_dG, cO_dG]
    unfold cnt rcm
    constructor
    · rintro ⟨h1, h2⟩
      simp only [Prod.mk.injEq] at h1 ⊢
      exact ⟨h1.1, h1.2.1, h1.2.2, h2⟩
    · intro h1
      simp only [Prod.mk.injEq] at h1 ⊢
      exact ⟨⟨h1.1, h1.2.1, h1.2.2.1⟩, h1.2.2.2⟩
  have step : ∀ c, c < 3 → jR (d + 3) 106 3 [.ref g, .int (pl p), .ref h, .int (pl q), .int (N c)] [] μ = haveI := Classical.propDecidable (cO [] (dG μ (xA g)) p c = cO [] (dG μ (xA h)) q c); if cO [] (dG μ (xA g)) p c = cO [] (dG μ (xA h)) q c then jR (d + 3) 106 3 [.ref g, .int (pl p), .ref h, .int (pl q), .int (N (c + 1))] [] μ else some (some (.int (N 0)), μ) := by
    intro c hc
    have bc : c < 2147483648 := by omega
    have t1 := x_isAl (d := d) hs hn hs' hn' hp hq hc ho ho'
    have t2 := x_noteAt (d := d + 1) hs hn hp hc
    have t3 := x_noteAt (d := d + 1) hs' hn' hq hc
    rw [b106_3 (h2 := ir_ref)]
    simp only [gI6, gR6, pI6, pR6, rv6, aI_eq, aB_eq, aR_eq, sI_eq, sB_eq, sR_eq, Option.bind_some, Option.bind_none, if_true, if_false, true_or, or_true, false_or, or_false, true_and, and_true, false_and, and_false, decide_eq_true_eq, decide_true, decide_false, eq_self, not_true_eq_false, not_false_eq_true, jfit0, N_lit, N_add, N_mul, NEG_eq, pl_none, pl_some, rf_some, rf_none, jun_ref, jun_null, ir_ref, ir_null, jr_rf, jun_rf, Option.toList_some, Option.toList_none, List.nil_append, List.cons_append, N_lt bc b3, hc, hs.1, hs'.1, t1, b106_18, t2, b106_28, t3, b106_35, b106_38]
    by_cases e1 : cnt (cO [] (dG μ (xA g)) p c) = cnt (cO [] (dG μ (xA h)) q c)
    · rw [if_neg (by rw [pN_eq0]; exact fun k => k e1)]
      by_cases e2 : (cO none (rG μ (xA g)) p c).2.2.2 = (cO none (rG μ (xA h)) q c).2.2.2
      · rw [if_pos e2, if_pos ((full c).mp ⟨e1, e2⟩)]
      · rw [if_neg e2, if_neg (fun k => e2 ((full c).mpr k).2)]
    · rw [if_pos (pN_eq0.mpr e1), if_neg (fun k => e1 ((full c).mpr k).1)]
  rw [jC_run (by decide)]
  show jR (d + 3) 106 0 [.ref g, .int (pl p), .ref h, .int (pl q), .retAddr 0] [] μ = _
  rw [b106_0 (h2 := ir_ref), N_lit, step 0 (by decide)]
  by_cases e0 : cO [] (dG μ (xA g)) p 0 = cO [] (dG μ (xA h)) q 0
  · rw [if_pos e0, step (0 + 1) (by decide)]
    by_cases e1 : cO [] (dG μ (xA g)) p (0 + 1) = cO [] (dG μ (xA h)) q (0 + 1)
    · rw [if_pos e1, step (0 + 1 + 1) (by decide)]
      by_cases e2 : cO [] (dG μ (xA g)) p (0 + 1 + 1) = cO [] (dG μ (xA h)) q (0 + 1 + 1)
      · rw [if_pos e2, pN_pos (fun c hc => by
          rcases (show c = 0 ∨ c = 1 ∨ c = 2 by omega) with rfl | rfl | rfl
          · exact e0
          · exact e1
          · exact e2), b106_3 (h2 := ir_ref)]
        simp only [aI_eq, aB_eq, aR_eq, sI_eq, sB_eq, sR_eq, Option.bind_some, Option.bind_none, if_true, if_false, true_or, or_true, false_or, or_false, true_and, and_true, false_and, and_false, decide_eq_true_eq, decide_true, decide_false, eq_self, not_true_eq_false, not_false_eq_true, jfit0, N_lit, N_add, N_mul, NEG_eq, pl_none, pl_some, rf_some, rf_none, jun_ref, jun_null, ir_ref, ir_null, jr_rf, jun_rf, Option.toList_some, Option.toList_none, List.nil_append, List.cons_append, N_lt (show 0 + 1 + 1 + 1 < 2147483648 by decide) b3, show ¬ (0 + 1 + 1 + 1 < 3) by decide]
      · rw [if_neg e2, pN_neg (fun k => e2 (k 2 (by decide)))]
    · rw [if_neg e1, pN_neg (fun k => e1 (k 1 (by decide)))]
  · rw [if_neg e0, pN_neg (fun k => e0 (k 0 (by decide)))]
/-- a cell (by its number) of the one has another content than the other's of its row's key -/
def unlk (l l' : DG) (x : Nat) : Prop := ¬ cnt (cO [] l (some (x / 3)) (x % 3)) = cnt (cO [] l' (lfind (keyO l (x / 3)) l') (x % 3))
/-- how many below x -/
noncomputable def unls (l l' : DG) : Nat → Nat
  | 0 => 0
  | x + 1 => haveI := Classical.propDecidable (unlk l l' x); unls l l' x + if unlk l l' x then 1 else 0
theorem unls_le (l l' : DG) : ∀ x, unls l l' x ≤ x
  | 0 => Nat.le_refl _
  | x + 1 => by
    have := unls_le l l' x
    show unls l l' x + _ ≤ x + 1
    split <;> omega
theorem unls_pos {l l' : DG} {x : Nat} (h : unlk l l' x) : unls l l' (x + 1) = unls l l' x + 1 := by
  rw [unls]; simp only [h, if_true]
theorem unls_neg {l l' : DG} {x : Nat} (h : ¬ unlk l l' x) : unls l l' (x + 1) = unls l l' x := by
  rw [unls]; simp only [h, if_false]; rfl
theorem lfind_lt {φ : Type} {k : Int32} {l : List (RW φ)} {i : Nat} (h : lfind k l = some i) : i < l.length := (List.findIdx?_eq_some_iff_getElem.mp h).1
theorem x_unlikeCells (hs : Gs μ g) (hn : Gn μ g) (hs' : Gs μ h) (hn' : Gn μ h) (ho : rowsOK μ D (rG μ (xA g))) (ho' : rowsOK μ D (rG μ (xA h))) : jC (d + 3) 110 [.ref g, .ref h] μ = some (some (.int (N (unls (dG μ (xA g)) (dG μ (xA h)) (vN μ (xA g) * 3)))), μ) := by
  have hn8 := hn.2
  have b3 : (3 : Nat) < 2147483648 := by decide
  have loop : ∀ k x u4, x + k = vN μ (xA g) * 3 → jR (d + 3) 110 4 [.ref g, .ref h, .int (N (unls (dG μ (xA g)) (dG μ (xA h)) x)), .int (N x), u4] [] μ = some (some (.int (N (unls (dG μ (xA g)) (dG μ (xA h)) (vN μ (xA g) * 3)))), μ) := by
    intro k
    induction k with
    | zero =>
      intro x u4 hx
      have hx : x = vN μ (xA g) * 3 := hx
      subst hx
      rw [b110_4 (h1 := ir_ref)]
      simp only [gI6, gR6, pI6, pR6, rv6, aI_eq, aB_eq, aR_eq, sI_eq, sB_eq, sR_eq, Option.bind_some, Option.bind_none, if_true, if_false, true_or, or_true, false_or, or_false, true_and, and_true, false_and, and_false, decide_eq_true_eq, decide_true, decide_false, eq_self, not_true_eq_false, not_false_eq_true, jfit0, N_lit, N_add, N_mul, NEG_eq, pl_none, pl_some, rf_some, rf_none, jun_ref, jun_null, ir_ref, ir_null, jr_rf, jun_rf, Option.toList_some, Option.toList_none, List.nil_append, List.cons_append, hs.1, hn.1, N_lt (show vN μ (xA g) * 3 < 2147483648 by omega) (show vN μ (xA g) * 3 < 2147483648 by omega), Nat.lt_irrefl]
    | succ k ih =>
      intro x u4 hx
      have bx : x < 2147483648 := by omega
      have bd : x / 3 < 2147483648 := by omega
      have ediv : N x / N 3 = N (x / 3) := by
        refine Int32.toInt_inj.mp ?_
        rw [Int32.toInt_div_of_ne_right _ _ (by decide), N_toInt bx, N_toInt b3, N_toInt bd]
        rw [Int.tdiv_eq_ediv_of_nonneg (by omega)]
        omega
      have emod : N x - N (x / 3) * N 3 = N (x % 3) := by
        rw [N_mul, N_sub (by omega)]
        congr 1; omega
      have hm3 : x % 3 < 3 := by omega
      have t1 := x_keyAt (d := d + 2) hs hn bd
      have t2 := x_placeOf (d := d + 2) hs' hn' (keyO (rG μ (xA g)) (x / 3))
      have hq : ∀ i, lfind (keyO (rG μ (xA g)) (x / 3)) (rG μ (xA h)) = some i → i < 1000 := fun i hi => by
        have h1 := lfind_lt hi
        rw [len_rG] at h1
        have := hn'.2
        omega
      have t3 := x_isAl (d := d) (p := some (x / 3)) hs hn hs' hn' (fun i hi => by cases hi; omega) hq hm3 ho ho'
      rw [pl_some] at t3
      have hu := unls_le (dG μ (xA g)) (dG μ (xA h)) x
      rw [b110_4 (h1 := ir_ref)]
      simp only [gI6, gR6, pI6, pR6, rv6, aI_eq, aB_eq, aR_eq, sI_eq, sB_eq, sR_eq, Option.bind_some, Option.bind_none, if_true, if_false, true_or, or_true, false_or, or_false, true_and, and_true, false_and, and_false, decide_eq_true_eq, decide_true, decide_false, eq_self, not_true_eq_false, not_false_eq_true, jfit0, N_lit, N_add, N_mul, NEG_eq, pl_none, pl_some, rf_some, rf_none, jun_ref, jun_null, ir_ref, ir_null, jr_rf, jun_rf, Option.toList_some, Option.toList_none, List.nil_append, List.cons_append, hs.1, hs'.1, hn.1, N_lt bx (show vN μ (xA g) * 3 < 2147483648 by omega), show x < vN μ (xA g) * 3 by omega, ediv]
      rw [show N x - N (x / 3 * 3) = N (x % 3) by rw [← N_mul]; exact emod]
      simp only [t1, aI_eq, aB_eq, aR_eq, sI_eq, sB_eq, sR_eq, Option.bind_some, Option.bind_none, if_true, if_false, true_or, or_true, false_or, or_false, true_and, and_true, false_and, and_false, decide_eq_true_eq, decide_true, decide_false, eq_self, not_true_eq_false, not_false_eq_true, jfit0, N_lit, N_add, N_mul, NEG_eq, pl_none, pl_some, rf_some, rf_none, jun_ref, jun_null, ir_ref, ir_null, jr_rf, jun_rf, Option.toList_some, Option.toList_none, List.nil_append, List.cons_append, b110_33, gI6, gR6, pI6, pR6, rv6, hs'.1, t2, b110_36, hs.1, t3, b110_39, b110_45]
      have ek : keyO (rG μ (xA g)) (x / 3) = keyO (dG μ (xA g)) (x / 3) := keyO_dG.symm
      have el : lfind (keyO (rG μ (xA g)) (x / 3)) (rG μ (xA h)) = lfind (keyO (dG μ (xA g)) (x / 3)) (dG μ (xA h)) := by rw [ek, lfind_dG]
      rw [el]
      have ih := fun u4 => ih (x + 1) u4 (by omega)
      by_cases e : unlk (dG μ (xA g)) (dG μ (xA h)) x
      · rw [if_pos (pN_eq0.mpr e)]
        have e2 : unls (dG μ (xA g)) (dG μ (xA h)) (x + 1) = unls (dG μ (xA g)) (dG μ (xA h)) x + 1 := unls_pos e
        rw [e2] at ih
        exact ih _
      · rw [if_neg (by rw [pN_eq0]; exact e)]
        have e2 : unls (dG μ (xA g)) (dG μ (xA h)) (x + 1) = unls (dG μ (xA g)) (dG μ (xA h)) x := unls_neg e
        rw [e2] at ih
        exact ih _
  rw [jC_run (by decide)]
  show jR (d + 3) 110 0 [.ref g, .ref h, .retAddr 0, .retAddr 0, .retAddr 0] [] μ = _
  rw [b110_0 (h1 := ir_ref)]
  exact loop (vN μ (xA g) * 3) 0 _ (by omega)
end ALIKE
