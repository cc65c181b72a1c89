/-! THE REFERENCE: rows copied, set, taken away -/
def SMg (M h a : Nat) : Prop := a = M + 3 + h ∨ a = M + 8 + h ∨ a = M + 13 + h ∨ a = M + 18 + h
/-- a grid's arrays changed -/
def FMg (M h : Nat) (μ μ' : jM) : Prop := Fx (SMg M h) (fun a _ => a = M + 23 + h) μ μ'
/-- a grid of the reference, raw -/
def GQ (μ : jM) (M g : Nat) : Prop := g < 4 ∧ jiv μ (M + 1) g = N (vN μ (mA M g)) ∧ vN μ (mA M g) ≤ 8 ∧ ∀ j b, jrv μ (M + 23 + g) j = some b → jk μ b = 20
/-- n rows -/
def RWN (μ : jM) (A : GA) (n : Nat) : List (RW (Option Nat)) := mkL n (jiv μ (A.1 1)) (rc μ A)
def rowAt (μ : jM) (A : GA) (i : Nat) : RW (Option Nat) := (jiv μ (A.1 1) i, rc μ A (i * 3), rc μ A (i * 3 + 1), rc μ A (i * 3 + 2))
/-- a cell copied -/
def cpC (μ : jM) (A : GA) (x : Nat) (B : GA) (y : Nat) : jM := putT (putC μ B y (rc μ A x).1 (rc μ A x).2.1 (rc μ A x).2.2.1) B y (rc μ A x).2.2.2
def cpR (μ : jM) (A : GA) (i : Nat) (B : GA) (k : Nat) : jM := cpC (cpC (cpC (jsetI μ (B.1 1) k (jiv μ (A.1 1) i)) A (i * 3) B (k * 3)) A (i * 3 + 1) B (k * 3 + 1)) A (i * 3 + 2) B (k * 3 + 2)
section REF
variable {μ μ' μ'' : jM} {S S' : Nat → Prop} {T T' : Nat → Nat → Prop} {M g h t n w d D i j k x y a : Nat} {A B : GA}
theorem QS.outx (h : QS μ M) (F : Fx S T μ μ') (hT : ∀ a j, T a j → M ≤ a → a < M + 424 → SR M a j) : QS μ' M := by
  obtain ⟨h1, h2, h3, h4⟩ := h
  have rv : ∀ o j, o < 424 → ¬ SR M (M + o) j → jrv μ' (M + o) j = jrv μ (M + o) j := fun o j ho hs => F.rv (fun g => hs (hT _ _ g (by omega) (by omega)))
  refine ⟨fun o ho => ?_, fun j t hj => ?_, fun g hg => ?_, fun t ht => ?_⟩
  · rw [F.kk, F.ll]; exact h1 o ho
  · have := rv 0 j (by decide) (by
      unfold SR
      rintro (⟨-, e⟩ | e | e | e)
      · rw [e] at hj; cases hj
      all_goals omega)
    rw [Nat.add_zero] at this
    rw [this]; exact h2 j t hj
  · have ns : ∀ o, o = 2 ∨ o = 7 ∨ o = 12 ∨ o = 17 ∨ o = 22 ∨ o = 418 → jrv μ' (M + o) g = jrv μ (M + o) g := fun o ho => rv o g (by omega) (by unfold SR; omega)
    rw [ns 2 (by decide), ns 7 (by decide), ns 12 (by decide), ns 17 (by decide), ns 22 (by decide), ns 418 (by decide)]
    exact h3 g hg
  · have ns : ∀ o, o = 29 ∨ o = 44 ∨ o = 115 ∨ o = 186 ∨ o = 257 ∨ o = 328 → jrv μ' (M + o) t = jrv μ (M + o) t := fun o ho => rv o t (by omega) (by unfold SR; omega)
    have nt : ∀ o j, o = 45 ∨ o = 116 ∨ o = 187 ∨ o = 258 ∨ o = 329 → jrv μ' (M + o + 5 * t) j = jrv μ (M + o + 5 * t) j := fun o j ho => by
      rw [Nat.add_assoc]
      exact rv (o + 5 * t) j (by omega) (by unfold SR; omega)
    rw [ns 29 (by decide), ns 44 (by decide), ns 115 (by decide), ns 186 (by decide), ns 257 (by decide), ns 328 (by decide)]
    refine ⟨(h4 t ht).1, (h4 t ht).2.1, fun g hg => ?_⟩
    rw [nt 45 g (by decide), nt 116 g (by decide), nt 187 g (by decide), nt 258 g (by decide), nt 329 g (by decide)]
    exact (h4 t ht).2.2 g hg
theorem QS.set (h : QS μ M) {v : Int32} : QS (jsetI μ a k v) M := by
  have F : Fx (fun b => b = a) (fun _ _ => False) μ (jsetI μ a k v) := by
    refine Fx.setI Fx.refl ?_
    exact (rfl : a = a)
  exact h.outx F (fun _ _ g => g.elim)
theorem FMg.refl : FMg M h μ μ := Fx.refl
theorem FMg.trans (a : FMg M h μ μ') (b : FMg M h μ' μ'') : FMg M h μ μ'' := Fx.trans a b
theorem FMg.qs (F : FMg M h μ μ') (hh : h < 4) (hq : QS μ M) : QS μ' M := hq.outx F (fun a j g _ _ => by
  have g : a = M + 23 + h := g
  exact Or.inr (Or.inl (by omega)))
theorem cpC_fr : FMg M h μ (cpC μ A x (mA M h) y) := by
  unfold cpC putT putC
  refine Fx.setI (Fx.setR (Fx.setI (Fx.setI Fx.refl ?_) ?_) ?_) ?_
  · exact Or.inr (Or.inl rfl)
  · exact Or.inr (Or.inr (Or.inl rfl))
  · exact (rfl : M + 23 + h = M + 23 + h)
  · exact Or.inr (Or.inr (Or.inr rfl))
theorem cpR_fr : FMg M h μ (cpR μ A i (mA M h) k) := by
  unfold cpR
  refine FMg.trans ?_ (FMg.trans cpC_fr (FMg.trans cpC_fr cpC_fr))
  refine Fx.setI Fx.refl ?_
  exact Or.inl rfl
theorem rc_cpC (hB : Aok B) : rc (cpC μ A x B y) B = updf (rc μ B) y (rc μ A x) := by
  unfold cpC
  rw [rc_putT hB, rc_putC hB]
  funext j
  unfold updf
  by_cases e : j = y
  · subst e; simp
  · simp [e]
theorem key_cpC (hB : Aok B) : jiv (cpC μ A x B y) (B.1 1) = jiv μ (B.1 1) := by
  unfold cpC
  rw [key_putT hB, key_putC hB]
/-- two grids are one or have no array in common -/
def Aap (A B : GA) : Prop := A = B ∨ ∀ i j, 1 ≤ i → i < 6 → 1 ≤ j → j < 6 → A.1 i ≠ B.1 j
theorem rc_cpC' (hB : Aok B) (hA : Aap A B) {x' : Nat} (hx : A ≠ B ∨ x' ≠ y) : rc (cpC μ A x B y) A x' = rc μ A x' := by
  rcases hA with rfl | hA
  · rw [rc_cpC hB]
    unfold updf
    rcases hx with hx | hx
    · exact absurd rfl hx
    · rw [if_neg hx]
  · unfold rc cpC putT putC
    have n2 := hA 2 2 (by decide) (by decide) (by decide) (by decide)
    have n23 := hA 2 3 (by decide) (by decide) (by decide) (by decide)
    have n25 := hA 2 5 (by decide) (by decide) (by decide) (by decide)
    have n3 := hA 3 2 (by decide) (by decide) (by decide) (by decide)
    have n33 := hA 3 3 (by decide) (by decide) (by decide) (by decide)
    have n35 := hA 3 5 (by decide) (by decide) (by decide) (by decide)
    have n4 := hA 4 4 (by decide) (by decide) (by decide) (by decide)
    have n5 := hA 5 2 (by decide) (by decide) (by decide) (by decide)
    have n53 := hA 5 3 (by decide) (by decide) (by decide) (by decide)
    have n55 := hA 5 5 (by decide) (by decide) (by decide) (by decide)
    simp only [iv_setI, iv_setR, rv_setI, rv_setR, n2, n23, n25, n3, n33, n35, n4, n5, n53, n55, false_and, if_false]
/-- a row copied -/
theorem rc_cpR (hB : Aok B) (hA : Aap A B) (hkey : ∀ i, 2 ≤ i → i < 6 → A.1 i ≠ B.1 1) : (∀ z, rc (cpR μ A i B k) B z = if z / 3 = k then rc μ A (i * 3 + z % 3) else rc μ B z) ∧ jiv (cpR μ A i B k) (B.1 1) = updf (jiv μ (B.1 1)) k (jiv μ (A.1 1) i) := by
  have r0 : ∀ z, rc (jsetI μ (B.1 1) k (jiv μ (A.1 1) i)) A z = rc μ A z := fun z => by
    unfold rc
    rw [iv_setIn (hkey 2 (by decide) (by decide)), iv_setIn (hkey 3 (by decide) (by decide)), iv_setIn (hkey 5 (by decide) (by decide)), rv_setI]
  have b0 : ∀ z, rc (jsetI μ (B.1 1) k (jiv μ (A.1 1) i)) B z = rc μ B z := fun z => by
    unfold rc
    rw [iv_setIn (by rw [hB.ne (by decide) (by decide) (by decide)]; exact id), iv_setIn (by rw [hB.ne (by decide) (by decide) (by decide)]; exact id), iv_setIn (by rw [hB.ne (by decide) (by decide) (by decide)]; exact id), rv_setI]
  constructor
  · intro z
    unfold cpR
    generalize hμ0 : jsetI μ (B.1 1) k (jiv μ (A.1 1) i) = μ0 at *
    rw [rc_cpC hB, rc_cpC hB, rc_cpC hB]
    by_cases hik : A = B ∧ i = k
    · obtain ⟨rfl, rfl⟩ := hik
      have c1 : rc (cpC μ0 A (i * 3) A (i * 3)) A = rc μ0 A := by
        rw [rc_cpC hB]; funext q; unfold updf; split
        · rename_i e; rw [e]
        · rfl
      have c2 : rc (cpC (cpC μ0 A (i * 3) A (i * 3)) A (i * 3 + 1) A (i * 3 + 1)) A = rc μ0 A := by
        rw [rc_cpC hB, c1]; funext q; unfold updf; split
        · rename_i e; rw [e]
        · rfl
      rw [c1, c2]
      unfold updf
      by_cases e0 : z = i * 3 + 2
      · rw [if_pos e0, if_pos (by omega), r0]; congr 1; omega
      · rw [if_neg e0]
        by_cases e1 : z = i * 3 + 1
        · rw [if_pos e1, if_pos (by omega), r0]; congr 1; omega
        · rw [if_neg e1]
          by_cases e2 : z = i * 3
          · rw [if_pos e2, if_pos (by omega), r0]; congr 1; omega
          · rw [if_neg e2, if_neg (by omega), b0]
    · have hne : ∀ c c' : Nat, c < 3 → c' < 3 → A ≠ B ∨ i * 3 + c ≠ k * 3 + c' := fun c c' hc hc' => by
        by_cases e : A = B
        · exact Or.inr (fun g => hik ⟨e, by omega⟩)
        · exact Or.inl e
      rw [rc_cpC' hB hA (hne 2 1 (by decide) (by decide)), rc_cpC' hB hA (show A ≠ B ∨ i * 3 + 2 ≠ k * 3 from hne 2 0 (by decide) (by decide)), rc_cpC' hB hA (show A ≠ B ∨ i * 3 + 1 ≠ k * 3 from hne 1 0 (by decide) (by decide)), r0 (i * 3), r0 (i * 3 + 1), r0 (i * 3 + 2)]
      unfold updf
      by_cases e0 : z = k * 3 + 2
      · rw [if_pos e0, if_pos (by omega)]; congr 1; omega
      · rw [if_neg e0]
        by_cases e1 : z = k * 3 + 1
        · rw [if_pos e1, if_pos (by omega)]; congr 1; omega
        · rw [if_neg e1]
          by_cases e2 : z = k * 3
          · rw [if_pos e2, if_pos (by omega)]; congr 1; omega
          · rw [if_neg e2, if_neg (by omega), b0]
  · unfold cpR
    rw [key_cpC hB, key_cpC hB, key_cpC hB]
    funext j
    simp only [iv_setI, true_and]
    rfl
theorem RL_cpR (hB : Aok B) (hA : Aap A B) (hkey : ∀ i, 2 ≤ i → i < 6 → A.1 i ≠ B.1 1) (hk : k < n) : RWN (cpR μ A i B k) B n = (RWN μ B n).set k (rowAt μ A i) := by
  obtain ⟨h1, h2⟩ := rc_cpR (μ := μ) (i := i) (k := k) hB hA hkey
  unfold RWN
  refine List.ext_getElem? fun j => ?_
  by_cases hj : j < n
  · rw [mkL_get hj, List.getElem?_set, h2, h1, h1, h1]
    by_cases e : k = j
    · subst e
      have hl : k < (mkL n (jiv μ (B.1 1)) (rc μ B)).length := by rw [len_mkL]; exact hj
      have s0 : k * 3 / 3 = k ∧ k * 3 % 3 = 0 := by omega
      have s1 : (k * 3 + 1) / 3 = k ∧ (k * 3 + 1) % 3 = 1 := by omega
      have s2 : (k * 3 + 2) / 3 = k ∧ (k * 3 + 2) % 3 = 2 := by omega
      unfold rowAt updf
      simp only [if_true, hl, s0, s1, s2, Nat.add_zero]
    · rw [if_neg e, mkL_get hj]
      unfold updf
      rw [if_neg (fun g => e g.symm), if_neg (by omega), if_neg (by omega), if_neg (by omega)]
  · rw [mkL_none hj, List.getElem?_eq_none (by rw [List.length_set, len_mkL]; omega)]
theorem mA_key (hg : g < 4) (hh : h < 4) : ∀ i, 2 ≤ i → i < 6 → (mA M g).1 i ≠ (mA M h).1 1 := by
  intro i h2 h6
  rcases (show i = 2 ∨ i = 3 ∨ i = 4 ∨ i = 5 by omega) with rfl | rfl | rfl | rfl <;> simp [mA] <;> omega
theorem mA_ap (hg : g < 4) (hh : h < 4) : Aap (mA M g) (mA M h) := by
  by_cases e : g = h
  · subst e; exact Or.inl rfl
  · refine Or.inr fun i j h1 h6 h1' h6' => ?_
    rcases (show i = 1 ∨ i = 2 ∨ i = 3 ∨ i = 4 ∨ i = 5 by omega) with rfl | rfl | rfl | rfl | rfl <;> rcases (show j = 1 ∨ j = 2 ∨ j = 3 ∨ j = 4 ∨ j = 5 by omega) with rfl | rfl | rfl | rfl | rfl <;> simp [mA] <;> omega
-- the methods
theorem r_copyCell (hq : QS μ M) (hg : g < 4) (hh : h < 4) (hx : x < 24) (hy : y < 24) (hf : ∀ j b, jrv μ (M + 23 + g) j = some b → jk μ b = 20) : jC d 197 [.ref M, .int (N g), .int (N x), .int (N h), .int (N y)] μ = some (none, cpC μ (mA M g) x (mA M h) y) := by
  obtain ⟨f0, f1, f2, f3, f4, f5⟩ := hq.f
  obtain ⟨a1, a2, a3, a4, a5, a6⟩ := hq.gr hg
  obtain ⟨b1, b2, b3, b4, b5, b6⟩ := hq.gr hh
  obtain ⟨g1, g2, g3, g4, g5, g6⟩ := hq.gk hg
  obtain ⟨i1, i2, i3, i4, i5, i6⟩ := hq.gk hh
  have k13 := hq.k13
  have e1 := ent_get (μ := μ) g2.1 g2.2 hx (by decide)
  have e2 := ent_set (μ := μ) (v := jiv μ (M + 8 + g) x) i2.1 i2.2 hy (by decide)
  have e3 := ent_get (μ := jsetI μ (M + 8 + h) y (jiv μ (M + 8 + g) x)) g3.1 g3.2 hx (by decide)
  rw [iv_setIn (show ¬ M + 13 + g = M + 8 + h by omega)] at e3
  have e4 := ent_set (μ := jsetI μ (M + 8 + h) y (jiv μ (M + 8 + g) x)) (v := jiv μ (M + 13 + g) x) i3.1 i3.2 hy (by decide)
  have e5 := refGet' (μ := jsetI (jsetI μ (M + 8 + h) y (jiv μ (M + 8 + g) x)) (M + 13 + h) y (jiv μ (M + 13 + g) x)) (a := M + 23 + g) (l := 24) (by show 30 ≤ jk μ (M + 23 + g) ∧ jk μ (M + 23 + g) < 36; rw [g5.1]; decide) g5.2 hx (by decide)
  have e6 := refSet (μ := jsetI (jsetI μ (M + 8 + h) y (jiv μ (M + 8 + g) x)) (M + 13 + h) y (jiv μ (M + 13 + g) x)) (a := M + 23 + h) (r := jrv μ (M + 23 + g) x) i5.1 i5.2 hy (by decide) (hf x)
  have e7 := ent_get (μ := jsetR (jsetI (jsetI μ (M + 8 + h) y (jiv μ (M + 8 + g) x)) (M + 13 + h) y (jiv μ (M + 13 + g) x)) (M + 23 + h) y (jrv μ (M + 23 + g) x)) (a := M + 18 + g) g4.1 g4.2 hx (by decide)
  rw [iv_setR, iv_setIn (show ¬ M + 18 + g = M + 13 + h by omega), iv_setIn (show ¬ M + 18 + g = M + 8 + h by omega)] at e7
  have e8 := ent_set (μ := jsetR (jsetI (jsetI μ (M + 8 + h) y (jiv μ (M + 8 + g) x)) (M + 13 + h) y (jiv μ (M + 13 + g) x)) (M + 23 + h) y (jrv μ (M + 23 + g) x)) (v := jiv μ (M + 18 + g) x) i4.1 i4.2 hy (by decide)
  rw [jC_run (by decide)]
  show jR d 197 0 [.ref M, .int (N g), .int (N x), .int (N h), .int (N y)] [] μ = _
  rw [b197_0]
  have e5' : jaR (jsetI (jsetI μ (M + 8 + h) y (jiv μ (M + 8 + g) x)) (M + 13 + h) y (jiv μ (M + 13 + g) x)) (.ref (M + 23 + g)) (N x) = some (va_rf (jrv μ (M + 23 + g) x)) := e5
  have z1 : jaR (jsetR (jsetI (jsetI μ (M + 8 + h) y (jiv μ (M + 8 + g) x)) (M + 13 + h) y (jiv μ (M + 13 + g) x)) (M + 23 + h) y (jrv μ (M + 23 + g) x)) (.ref (M + 17)) (N h) = some (.ref (M + 18 + h)) := by rw [aR_setR (by omega)]; exact b4
  have z2 : jaR (jsetR (jsetI (jsetI μ (M + 8 + h) y (jiv μ (M + 8 + g) x)) (M + 13 + h) y (jiv μ (M + 13 + g) x)) (M + 23 + h) y (jrv μ (M + 23 + g) x)) (.ref (M + 17)) (N g) = some (.ref (M + 18 + g)) := by rw [aR_setR (by omega)]; exact a4
  have rvM : jrv (jsetR (jsetI (jsetI μ (M + 8 + h) y (jiv μ (M + 8 + g) x)) (M + 13 + h) y (jiv μ (M + 13 + g) x)) (M + 23 + h) y (jrv μ (M + 23 + g) x)) M = jrv μ M := rv_setRn (by omega)
  have w1 : jaR (jsetI μ (M + 8 + h) y (jiv μ (M + 8 + g) x)) (.ref (M + 12)) (N h) = some (.ref (M + 13 + h)) := b3
  have w2 : jaR (jsetI μ (M + 8 + h) y (jiv μ (M + 8 + g) x)) (.ref (M + 12)) (N g) = some (.ref (M + 13 + g)) := a3
  have w3 : jaR (jsetI (jsetI μ (M + 8 + h) y (jiv μ (M + 8 + g) x)) (M + 13 + h) y (jiv μ (M + 13 + g) x)) (.ref (M + 22)) (N h) = some (.ref (M + 23 + h)) := b5
  have w4 : jaR (jsetI (jsetI μ (M + 8 + h) y (jiv μ (M + 8 + g) x)) (M + 13 + h) y (jiv μ (M + 13 + g) x)) (.ref (M + 22)) (N g) = some (.ref (M + 23 + g)) := a5
  simp only [gI13, gR13, pI13, pR13, rv13, Option.bind_some, Option.bind_none, if_true, if_false, true_or, or_true, false_or, or_false, true_and, and_true, false_and, and_false, decide_eq_true_eq, decide_true, decide_false, eq_self, not_true_eq_false, not_false_eq_true, jfit0, N_lit, N_add, N_mul, NEG_eq, pl_none, pl_some, rf_some, rf_none, jun_ref, jun_null, ir_ref, ir_null, jr_rf, jun_rf, Option.toList_some, Option.toList_none, List.nil_append, List.cons_append, jk_setI, jk_setR, rv_setI, k13, f2, f3, f4, f5, a2, b2, e1, e2, w1, w2, e3, e4, w3, w4, e5', e6, rvM, z1, z2, e7, e8]
  rfl
theorem r_copyRow (hq : QS μ M) (hg : g < 4) (hh : h < 4) (hi : i < 8) (hk : k < 8) (hf : ∀ j b, jrv μ (M + 23 + g) j = some b → jk μ b = 20) (hf' : ∀ j b, jrv μ (M + 23 + h) j = some b → jk μ b = 20) : jC (d + 1) 196 [.ref M, .int (N g), .int (N i), .int (N h), .int (N k)] μ = some (none, cpR μ (mA M g) i (mA M h) k) := by
  obtain ⟨f0, f1, f2, f3, f4, f5⟩ := hq.f
  obtain ⟨a1, a2, a3, a4, a5, a6⟩ := hq.gr hg
  obtain ⟨b1, b2, b3, b4, b5, b6⟩ := hq.gr hh
  obtain ⟨g1, g2, g3, g4, g5, g6⟩ := hq.gk hg
  obtain ⟨i1, i2, i3, i4, i5, i6⟩ := hq.gk hh
  have k13 := hq.k13
  have e1 := ent_get (μ := μ) g1.1 g1.2 hi (by decide)
  have e2 := ent_set (μ := μ) (v := jiv μ (M + 3 + g) i) i1.1 i1.2 hk (by decide)
  have keep : ∀ (μ0 : jM) (x y : Nat), (∀ g, g = h ∨ True → True) → (∀ j b, jrv μ0 (M + 23 + g) j = some b → jk μ0 b = 20) → ∀ j b, jrv (cpC μ0 (mA M g) x (mA M h) y) (M + 23 + g) j = some b → jk μ0 b = 20 := by
    intro μ0 x y _ h0 j b hb
    have hb : (if M + 23 + g = M + 23 + h ∧ j = y then jrv μ0 (M + 23 + g) x else jrv μ0 (M + 23 + g) j) = some b := hb
    split at hb
    · exact h0 x b hb
    · exact h0 j b hb
  have q0 : QS (jsetI μ (M + 3 + h) k (jiv μ (M + 3 + g) i)) M := hq.set
  have c0 := r_copyCell (d := d) (x := i * 3) (y := k * 3) q0 hg hh (by omega) (by omega) hf
  have q1 := FMg.qs (cpC_fr (A := mA M g) (x := i * 3) (y := k * 3)) hh q0
  have hf1 := keep (jsetI μ (M + 3 + h) k (jiv μ (M + 3 + g) i)) (i * 3) (k * 3) (fun _ _ => trivial) hf
  have c1 := r_copyCell (d := d) (x := i * 3 + 1) (y := k * 3 + 1) q1 hg hh (by omega) (by omega) hf1
  have q2 := FMg.qs (cpC_fr (A := mA M g) (x := i * 3 + 1) (y := k * 3 + 1)) hh q1
  have hf2 := keep (cpC (jsetI μ (M + 3 + h) k (jiv μ (M + 3 + g) i)) (mA M g) (i * 3) (mA M h) (k * 3)) (i * 3 + 1) (k * 3 + 1) (fun _ _ => trivial) hf1
  have c2 := r_copyCell (d := d) (x := i * 3 + 2) (y := k * 3 + 2) q2 hg hh (by omega) (by omega) hf2
  have q3 := FMg.qs (cpC_fr (A := mA M g) (x := i * 3 + 2) (y := k * 3 + 2)) hh q2
  rw [jC_run (by decide)]
  show jR (d + 1) 196 0 [.ref M, .int (N g), .int (N i), .int (N h), .int (N k), .retAddr 0] [] μ = _
  rw [b196_0]
  simp only [gI13, gR13, pI13, pR13, rv13, Option.bind_some, Option.bind_none, if_true, if_false, true_or, or_true, false_or, or_false, true_and, and_true, false_and, and_false, decide_eq_true_eq, decide_true, decide_false, eq_self, not_true_eq_false, not_false_eq_true, jfit0, N_lit, N_add, N_mul, NEG_eq, pl_none, pl_some, rf_some, rf_none, jun_ref, jun_null, ir_ref, ir_null, jr_rf, jun_rf, Option.toList_some, Option.toList_none, List.nil_append, List.cons_append, k13, f1, a1, b1, e1, e2]
  have lp : ∀ (μ0 μ1 : jM) (c : Nat), c < 3 → QS μ0 M → jC d 197 [.ref M, .int (N g), .int (N (i * 3 + c)), .int (N h), .int (N (k * 3 + c))] μ0 = some (none, μ1) → jR (d + 1) 196 20 [.ref M, .int (N g), .int (N i), .int (N h), .int (N k), .int (N c)] [] μ0 = jR (d + 1) 196 20 [.ref M, .int (N g), .int (N i), .int (N h), .int (N k), .int (N (c + 1))] [] μ1 := by
    intro μ0 μ1 c hc q0 hc0
    rw [b196_20, if_pos (by show N c < N 3; rw [N_lt (by omega) (by decide)]; exact hc)]
    simp only [N_lit, N_mul, N_add, Nat.mul_comm 3, gI13, gR13, pI13, pR13, rv13, Option.bind_some, Option.bind_none, if_true, if_false, true_or, or_true, false_or, or_false, true_and, and_true, false_and, and_false, decide_eq_true_eq, decide_true, decide_false, eq_self, not_true_eq_false, not_false_eq_true, jfit0, N_lit, N_add, N_mul, NEG_eq, pl_none, pl_some, rf_some, rf_none, jun_ref, jun_null, ir_ref, ir_null, jr_rf, jun_rf, Option.toList_some, Option.toList_none, List.nil_append, List.cons_append, q0.k13, hc0]
    rw [b196_45]
    simp only [N_lit, N_add]
  rw [lp _ _ 0 (by decide) q0 c0, lp _ _ 1 (by decide) q1 c1, lp _ _ 2 (by decide) q2 c2, b196_20, if_neg (by decide)]
  rfl
end REF
