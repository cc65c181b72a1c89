/-! THE REFERENCE: grids laid aside and back -/
/-- one grid's arrays written over another's, the formulas apart -/
def gcI (μ : jM) (A B : GA) : jM := jrowI (jrowI (jrowI (jrowI (jsetI μ (B.1 0) B.2 (jiv μ (A.1 0) A.2)) (B.1 1) (va_cpy (jiv μ (A.1 1)) (jiv μ (B.1 1)) 0 0 8)) (B.1 2) (va_cpy (jiv μ (A.1 2)) (jiv μ (B.1 2)) 0 0 24)) (B.1 3) (va_cpy (jiv μ (A.1 3)) (jiv μ (B.1 3)) 0 0 24)) (B.1 5) (va_cpy (jiv μ (A.1 5)) (jiv μ (B.1 5)) 0 0 24)
/-- the first n formulas written over -/
def cpF (ν : jM) (A B : GA) (n : Nat) : jM := jrowR ν (B.1 4) fun j => if j < n then jrv ν (A.1 4) j else jrv ν (B.1 4) j
def Adis (A B : GA) : Prop := ∀ i j, i < 6 → j < 6 → A.1 i ≠ B.1 j
/-- an array of a grid -/
def SA (B : GA) (a : Nat) : Prop := a = B.1 0 ∨ a = B.1 1 ∨ a = B.1 2 ∨ a = B.1 3 ∨ a = B.1 5
/-- a grid anywhere in the reference is well-formed -/
def GW (μ : jM) (A : GA) : Prop := jiv μ (A.1 0) A.2 = N (vN μ A) ∧ vN μ A ≤ 8 ∧ ∀ j b, jrv μ (A.1 4) j = some b → jk μ b = 20
section LAY
variable {μ μ' ν : jM} {S S' : Nat → Prop} {T T' : Nat → Nat → Prop} {M g h t s n w d D i j k x y a b c : Nat} {A B C : GA}
theorem cpF_zero : cpF ν A B 0 = ν := by
  have : (fun a' k' => if a' = B.1 4 then (fun j => if j < 0 then jrv ν (A.1 4) j else jrv ν (B.1 4) j) k' else ν.2.2.2.1 a' k') = ν.2.2.2.1 := by
    funext a k
    split
    · rename_i e; subst e; rfl
    · rfl
  show (ν.1, ν.2.1, ν.2.2.1, (fun a' k' => if a' = B.1 4 then (fun j => if j < 0 then jrv ν (A.1 4) j else jrv ν (B.1 4) j) k' else ν.2.2.2.1 a' k'), ν.2.2.2.2) = ν
  rw [this]
theorem cpF_succ : jsetR (cpF ν A B n) (B.1 4) n (jrv ν (A.1 4) n) = cpF ν A B (n + 1) := by
  have : (jsetR (cpF ν A B n) (B.1 4) n (jrv ν (A.1 4) n)).2.2.2.1 = (cpF ν A B (n + 1)).2.2.2.1 := by
    funext a k
    show (if a = B.1 4 ∧ k = n then jrv ν (A.1 4) n else if a = B.1 4 then (if k < n then jrv ν (A.1 4) k else jrv ν (B.1 4) k) else jrv ν a k) = if a = B.1 4 then (if k < n + 1 then jrv ν (A.1 4) k else jrv ν (B.1 4) k) else jrv ν a k
    by_cases e : a = B.1 4
    · rw [if_pos e, if_pos e]
      by_cases e2 : k = n
      · rw [if_pos ⟨e, e2⟩, if_pos (by omega), e2]
      · rw [if_neg (fun g => e2 g.2)]
        by_cases e3 : k < n
        · rw [if_pos e3, if_pos (by omega)]
        · rw [if_neg e3, if_neg (by omega)]
    · rw [if_neg (fun g => e g.1), if_neg e, if_neg e]
  show (_, _, _, (jsetR (cpF ν A B n) (B.1 4) n (jrv ν (A.1 4) n)).2.2.2.1, _) = (_, _, _, (cpF ν A B (n + 1)).2.2.2.1, _)
  rw [this]; rfl
theorem cpF_A (hd : Adis A B) : jrv (cpF ν A B n) (A.1 4) = jrv ν (A.1 4) := rv_rowRn (hd 4 4 (by decide) (by decide))
theorem cpF_fr : Fx (SA B) (fun a _ => a = B.1 4) μ (cpF (gcI μ A B) A B n) := by
  unfold cpF gcI
  refine Fx.rowR (Fx.rowI (Fx.rowI (Fx.rowI (Fx.rowI (Fx.setI Fx.refl ?_) ?_) ?_) ?_) ?_) (fun _ => rfl)
  · exact Or.inl rfl
  · exact Or.inr (Or.inl rfl)
  · exact Or.inr (Or.inr (Or.inl rfl))
  · exact Or.inr (Or.inr (Or.inr (Or.inl rfl)))
  · exact Or.inr (Or.inr (Or.inr (Or.inr rfl)))
/-- what the other grid is then -/
theorem cpF_rd (hB : Aok B) (hd : Adis A B) (hA : GW μ A) (hr : ∀ j b, jrv μ (B.1 4) j = some b → jk μ b = 20) : GW (cpF (gcI μ A B) A B 24) B ∧ rG (cpF (gcI μ A B) A B 24) B = rG μ A ∧ ∀ j, j ≠ B.2 → jiv (cpF (gcI μ A B) A B 24) (B.1 0) j = jiv μ (B.1 0) j := by
  obtain ⟨a1, a2, a3⟩ := hA
  have n := fun i j hi hj e => (hB.ne (i := i) (j := j) hi hj e)
  have e0 : jiv (cpF (gcI μ A B) A B 24) (B.1 0) = jiv (jsetI μ (B.1 0) B.2 (jiv μ (A.1 0) A.2)) (B.1 0) := by
    unfold cpF gcI
    rw [iv_rowR, iv_rowIn (of_eq_false (n 0 5 (by decide) (by decide) (by decide))), iv_rowIn (of_eq_false (n 0 3 (by decide) (by decide) (by decide))), iv_rowIn (of_eq_false (n 0 2 (by decide) (by decide) (by decide))), iv_rowIn (of_eq_false (n 0 1 (by decide) (by decide) (by decide)))]
  have e1 : jiv (cpF (gcI μ A B) A B 24) (B.1 1) = va_cpy (jiv μ (A.1 1)) (jiv μ (B.1 1)) 0 0 8 := by
    unfold cpF gcI
    rw [iv_rowR, iv_rowIn (of_eq_false (n 1 5 (by decide) (by decide) (by decide))), iv_rowIn (of_eq_false (n 1 3 (by decide) (by decide) (by decide))), iv_rowIn (of_eq_false (n 1 2 (by decide) (by decide) (by decide))), iv_rowIe]
  have e2 : jiv (cpF (gcI μ A B) A B 24) (B.1 2) = va_cpy (jiv μ (A.1 2)) (jiv μ (B.1 2)) 0 0 24 := by
    unfold cpF gcI
    rw [iv_rowR, iv_rowIn (of_eq_false (n 2 5 (by decide) (by decide) (by decide))), iv_rowIn (of_eq_false (n 2 3 (by decide) (by decide) (by decide))), iv_rowIe]
  have e3 : jiv (cpF (gcI μ A B) A B 24) (B.1 3) = va_cpy (jiv μ (A.1 3)) (jiv μ (B.1 3)) 0 0 24 := by
    unfold cpF gcI
    rw [iv_rowR, iv_rowIn (of_eq_false (n 3 5 (by decide) (by decide) (by decide))), iv_rowIe]
  have e5 : jiv (cpF (gcI μ A B) A B 24) (B.1 5) = va_cpy (jiv μ (A.1 5)) (jiv μ (B.1 5)) 0 0 24 := by
    unfold cpF gcI
    rw [iv_rowR, iv_rowIe]
  have e4 : jrv (cpF (gcI μ A B) A B 24) (B.1 4) = fun j => if j < 24 then jrv μ (A.1 4) j else jrv μ (B.1 4) j := by
    unfold cpF
    rw [rv_rowRe]
    rfl
  have v0 : vN (cpF (gcI μ A B) A B 24) B = vN μ A := by
    unfold vN
    rw [e0]
    congr 1
    show (if B.1 0 = B.1 0 ∧ B.2 = B.2 then _ else _) = _
    rw [if_pos ⟨rfl, rfl⟩]
  have cp : ∀ (f f' : Nat → Int32) (n k : Nat), k < n → va_cpy f f' 0 0 n k = f k := fun f f' n k hk => by
    unfold va_cpy
    rw [if_pos ⟨Nat.zero_le _, by omega⟩, Nat.zero_add, Nat.sub_zero]
  refine ⟨⟨?_, by rw [v0]; exact a2, fun j b hb => ?_⟩, ?_, fun j hj => ?_⟩
  · rw [v0, e0]
    show (if B.1 0 = B.1 0 ∧ B.2 = B.2 then _ else _) = _
    rw [if_pos ⟨rfl, rfl⟩]; exact a1
  · rw [e4] at hb
    have hb : (if j < 24 then jrv μ (A.1 4) j else jrv μ (B.1 4) j) = some b := hb
    show jk μ b = 20
    split at hb
    · exact a3 j b hb
    · exact hr j b hb
  · unfold rG
    rw [v0]
    refine mkL_congr (fun i hi => ?_) (fun i hi => ?_)
    · rw [e1]; exact cp _ _ _ _ (by omega)
    · unfold rc
      rw [e2, e3, e4, e5, cp _ _ _ _ (by omega), cp _ _ _ _ (by omega), cp _ _ _ _ (by omega)]
      show (_, _, (if i < 24 then jrv μ (A.1 4) i else jrv μ (B.1 4) i), _) = _
      rw [if_pos (by omega)]
  · rw [e0]
    show (if B.1 0 = B.1 0 ∧ j = B.2 then _ else _) = _
    rw [if_neg (fun g => hj g.2)]; rfl
theorem aR_cpF (h : b ≠ B.1 4) {y : Int32} : jaR (cpF ν A B n) (.ref b) y = jaR ν (.ref b) y := aR_rowR h
/-- the ways to a grid laid aside -/
theorem QS.ar (h : QS μ M) (ht : t < 14) : jaR μ (.ref (M + 29)) (N t) = some (.ref (M + 30 + t)) ∧ jaR μ (.ref (M + 44)) (N t) = some (.ref (M + 45 + 5 * t)) ∧ jaR μ (.ref (M + 115)) (N t) = some (.ref (M + 116 + 5 * t)) ∧ jaR μ (.ref (M + 186)) (N t) = some (.ref (M + 187 + 5 * t)) ∧ jaR μ (.ref (M + 257)) (N t) = some (.ref (M + 258 + 5 * t)) ∧ jaR μ (.ref (M + 328)) (N t) = some (.ref (M + 329 + 5 * t)) := by
  obtain ⟨a0, ⟨a1, a2, a3, a4, a5⟩, -⟩ := h.2.2.2 t ht
  have k0 := h.kd (o := 29) (by decide) rfl
  have k1 := h.kd (o := 44) (by decide) rfl
  have k2 := h.kd (o := 115) (by decide) rfl
  have k3 := h.kd (o := 186) (by decide) rfl
  have k4 := h.kd (o := 257) (by decide) rfl
  have k5 := h.kd (o := 328) (by decide) rfl
  exact ⟨refGet (by rw [k0.1]; decide) k0.2 ht (by decide) a0, refGet (by rw [k1.1]; decide) k1.2 ht (by decide) a1, refGet (by rw [k2.1]; decide) k2.2 ht (by decide) a2, refGet (by rw [k3.1]; decide) k3.2 ht (by decide) a3, refGet (by rw [k4.1]; decide) k4.2 ht (by decide) a4, refGet (by rw [k5.1]; decide) k5.2 ht (by decide) a5⟩
theorem QS.ag (h : QS μ M) (ht : t < 14) (hg : g < 4) : jaR μ (.ref (M + 45 + 5 * t)) (N g) = some (.ref (M + 46 + 5 * t + g)) ∧ jaR μ (.ref (M + 116 + 5 * t)) (N g) = some (.ref (M + 117 + 5 * t + g)) ∧ jaR μ (.ref (M + 187 + 5 * t)) (N g) = some (.ref (M + 188 + 5 * t + g)) ∧ jaR μ (.ref (M + 258 + 5 * t)) (N g) = some (.ref (M + 259 + 5 * t + g)) ∧ jaR μ (.ref (M + 329 + 5 * t)) (N g) = some (.ref (M + 330 + 5 * t + g)) := by
  obtain ⟨-, -, a⟩ := h.2.2.2 t ht
  obtain ⟨a1, a2, a3, a4, a5⟩ := a g hg
  have m : ∀ (o k : Nat), (∀ t : Fin 14, mkd (o + 5 * t.val) = (k, 4)) → o < 330 → jk μ (M + o + 5 * t) = k ∧ jl μ (M + o + 5 * t) = 4 := fun o k e ho => by
    have := h.kd (o := o + 5 * t) (a := M + o + 5 * t) (by omega) (by omega)
    rw [e ⟨t, ht⟩] at this
    exact this
  have k1 := m 45 33 (by decide) (by decide)
  have k2 := m 116 33 (by decide) (by decide)
  have k3 := m 187 33 (by decide) (by decide)
  have k4 := m 258 33 (by decide) (by decide)
  have k5 := m 329 34 (by decide) (by decide)
  exact ⟨refGet (by rw [k1.1]; decide) k1.2 hg (by decide) a1, refGet (by rw [k2.1]; decide) k2.2 hg (by decide) a2, refGet (by rw [k3.1]; decide) k3.2 hg (by decide) a3, refGet (by rw [k4.1]; decide) k4.2 hg (by decide) a4, refGet (by rw [k5.1]; decide) k5.2 hg (by decide) a5⟩
theorem QS.af (h : QS μ M) : jrv μ M 8 = some (M + 29) ∧ jrv μ M 9 = some (M + 44) ∧ jrv μ M 10 = some (M + 115) ∧ jrv μ M 11 = some (M + 186) ∧ jrv μ M 12 = some (M + 257) ∧ jrv μ M 13 = some (M + 328) :=
  ⟨h.2.1 8 29 rfl, h.2.1 9 44 rfl, h.2.1 10 115 rfl, h.2.1 11 186 rfl, h.2.1 12 257 rfl, h.2.1 13 328 rfl⟩
theorem ma_dis (hg : g < 4) (hh : h < 4) (ht : t < 14) : Adis (mA M g) (aA M t h) ∧ Adis (aA M t h) (mA M g) := by
  have e : Adis (mA M g) (aA M t h) := by
    intro i j hi hj e
    rcases (show i = 0 ∨ i = 1 ∨ i = 2 ∨ i = 3 ∨ i = 4 ∨ i = 5 by omega) with rfl | rfl | rfl | rfl | rfl | rfl <;> rcases (show j = 0 ∨ j = 1 ∨ j = 2 ∨ j = 3 ∨ j = 4 ∨ j = 5 by omega) with rfl | rfl | rfl | rfl | rfl | rfl <;> simp [mA, aA] at e <;> omega
  exact ⟨e, fun i j hi hj q => e j i hj hi q.symm⟩
theorem aa_dis (hg : g < 4) (hh : h < 4) (hs : s < 14) (ht : t < 14) (hne : s ≠ t) : Adis (aA M s g) (aA M t h) := by
  intro i j hi hj e
  rcases (show i = 0 ∨ i = 1 ∨ i = 2 ∨ i = 3 ∨ i = 4 ∨ i = 5 by omega) with rfl | rfl | rfl | rfl | rfl | rfl <;> rcases (show j = 0 ∨ j = 1 ∨ j = 2 ∨ j = 3 ∨ j = 4 ∨ j = 5 by omega) with rfl | rfl | rfl | rfl | rfl | rfl <;> simp [aA] at e <;> omega
end LAY
