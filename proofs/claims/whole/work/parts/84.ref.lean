/-! THE REFERENCE's OBJECT at M: its 424 cells -/
/-- kinds and lengths -/
def mkd (o : Nat) : Nat × Nat :=
  if o = 0 then (13, 0) else if o = 1 then (20, 4) else if o = 2 then (33, 4) else if o < 7 then (20, 8) else if o = 7 then (33, 4) else if o < 12 then (20, 24)
  else if o = 12 then (33, 4) else if o < 17 then (20, 24) else if o = 17 then (33, 4) else if o < 22 then (20, 24) else if o = 22 then (34, 4) else if o < 27 then (33, 24)
  else if o < 29 then (20, 3) else if o = 29 then (33, 14) else if o < 44 then (20, 4) else if o = 44 then (34, 14) else if o < 115 then (if (o - 45) % 5 = 0 then (33, 4) else (20, 8))
  else if o = 115 then (34, 14) else if o < 186 then (if (o - 116) % 5 = 0 then (33, 4) else (20, 24)) else if o = 186 then (34, 14) else if o < 257 then (if (o - 187) % 5 = 0 then (33, 4) else (20, 24))
  else if o = 257 then (34, 14) else if o < 328 then (if (o - 258) % 5 = 0 then (33, 4) else (20, 24)) else if o = 328 then (35, 14) else if o < 399 then (if (o - 329) % 5 = 0 then (34, 4) else (33, 24))
  else if o = 399 then (20, 40) else if o = 400 then (20, 80) else if o < 403 then (20, 24) else if o < 405 then (21, 24) else if o < 408 then (20, 80) else if o = 408 then (21, 80)
  else if o = 409 then (20, 242) else if o = 410 then (21, 80) else if o = 411 then (20, 8) else if o < 414 then (20, 24) else if o = 414 then (33, 24) else if o = 415 then (20, 6)
  else if o < 418 then (20, 4) else if o = 418 then (33, 4) else (20, 40)
/-- where an object's field leads -/
def mof (j : Nat) : Option Nat :=
  if j = 0 then some 1 else if j = 1 then some 2 else if j = 2 then some 7 else if j = 3 then some 12 else if j = 4 then some 17 else if j = 5 then some 22 else if j = 6 then some 27 else if j = 7 then some 28
  else if j = 8 then some 29 else if j = 9 then some 44 else if j = 10 then some 115 else if j = 11 then some 186 else if j = 12 then some 257 else if j = 13 then some 328 else if j = 15 then some 399 else if j = 25 then some 400
  else if j = 27 then some 401 else if j = 28 then some 402 else if j = 29 then some 403 else if j = 30 then some 404 else if j = 37 then some 405 else if j = 38 then some 406 else if j = 39 then some 407 else if j = 40 then some 408
  else if j = 41 then some 409 else if j = 42 then some 410 else if j = 44 then some 411 else if j = 45 then some 412 else if j = 46 then some 413 else if j = 47 then some 414 else if j = 51 then some 415 else if j = 52 then some 416
  else if j = 53 then some 417 else if j = 54 then some 418 else if j = 55 then some 423 else none
/-- the reference's shape -/
def QS (μ : jM) (M : Nat) : Prop :=
  (∀ o, o < 424 → jk μ (M + o) = (mkd o).1 ∧ jl μ (M + o) = (mkd o).2) ∧ (∀ j t, mof j = some t → jrv μ M j = some (M + t)) ∧
  (∀ g, g < 4 → jrv μ (M + 2) g = some (M + 3 + g) ∧ jrv μ (M + 7) g = some (M + 8 + g) ∧ jrv μ (M + 12) g = some (M + 13 + g) ∧ jrv μ (M + 17) g = some (M + 18 + g) ∧ jrv μ (M + 22) g = some (M + 23 + g) ∧ jrv μ (M + 418) g = some (M + 419 + g)) ∧
  ∀ t, t < 14 → jrv μ (M + 29) t = some (M + 30 + t) ∧ (jrv μ (M + 44) t = some (M + 45 + 5 * t) ∧ jrv μ (M + 115) t = some (M + 116 + 5 * t) ∧ jrv μ (M + 186) t = some (M + 187 + 5 * t) ∧ jrv μ (M + 257) t = some (M + 258 + 5 * t) ∧ jrv μ (M + 328) t = some (M + 329 + 5 * t)) ∧
    ∀ g, g < 4 → jrv μ (M + 45 + 5 * t) g = some (M + 46 + 5 * t + g) ∧ jrv μ (M + 116 + 5 * t) g = some (M + 117 + 5 * t + g) ∧ jrv μ (M + 187 + 5 * t) g = some (M + 188 + 5 * t + g) ∧ jrv μ (M + 258 + 5 * t) g = some (M + 259 + 5 * t + g) ∧ jrv μ (M + 329 + 5 * t) g = some (M + 330 + 5 * t + g)
def mA (M g : Nat) : GA := (fun j => if j = 0 then M + 1 else if j = 1 then M + 3 + g else if j = 2 then M + 8 + g else if j = 3 then M + 13 + g else if j = 4 then M + 23 + g else M + 18 + g, g)
def aA (M t g : Nat) : GA := (fun j => if j = 0 then M + 30 + t else if j = 1 then M + 46 + 5 * t + g else if j = 2 then M + 117 + 5 * t + g else if j = 3 then M + 188 + 5 * t + g else if j = 4 then M + 330 + 5 * t + g else M + 259 + 5 * t + g, g)
/-- which references may change at all -/
def SR (M a j : Nat) : Prop := (a = M ∧ j = 34) ∨ (M + 23 ≤ a ∧ a < M + 27) ∨ (M + 329 ≤ a ∧ a < M + 399 ∧ (a - M - 329) % 5 ≠ 0) ∨ a = M + 414
section REF
variable {μ μ' μ'' : jM} {S S' : Nat → Prop} {T T' : Nat → Nat → Prop} {M g h t n w d D i j k x : Nat}
theorem mA_ok (hg : g < 4) : Aok (mA M g) := by
  intro i j hi hj e
  rcases (show i = 0 ∨ i = 1 ∨ i = 2 ∨ i = 3 ∨ i = 4 ∨ i = 5 by omega) with rfl | rfl | rfl | rfl | rfl | rfl <;> rcases (show j = 0 ∨ j = 1 ∨ j = 2 ∨ j = 3 ∨ j = 4 ∨ j = 5 by omega) with rfl | rfl | rfl | rfl | rfl | rfl <;> simp [mA] at e <;> omega
theorem aA_ok (hg : g < 4) (ht : t < 14) : Aok (aA M t g) := by
  intro i j hi hj e
  rcases (show i = 0 ∨ i = 1 ∨ i = 2 ∨ i = 3 ∨ i = 4 ∨ i = 5 by omega) with rfl | rfl | rfl | rfl | rfl | rfl <;> rcases (show j = 0 ∨ j = 1 ∨ j = 2 ∨ j = 3 ∨ j = 4 ∨ j = 5 by omega) with rfl | rfl | rfl | rfl | rfl | rfl <;> simp [aA] at e <;> omega
theorem QS.out (h : QS μ M) (hz : M + 424 ≤ jsz μ) (F : Fa S T n w μ μ') (hT : ∀ a j, T a j → M ≤ a → a < M + 424 → SR M a j) : QS μ' M := by
  obtain ⟨h1, h2, h3, h4⟩ := h
  have rv : ∀ o j, o < 424 → ¬ SR M (M + o) j → jrv μ' (M + o) j = jrv μ (M + o) j := fun o j ho hs => F.rv (by omega) (fun g => hs (hT _ _ g (by omega) (by omega)))
  refine ⟨fun o ho => ?_, fun j t hj => ?_, fun g hg => ?_, fun t ht => ?_⟩
  · rw [F.kk (by omega), F.ll (by omega)]; exact h1 o ho
  · have := rv 0 j (by decide) (by
      unfold SR
      rintro (⟨-, e⟩ | e | e | e)
      · rw [e] at hj; cases hj
      all_goals omega)
    rw [Nat.add_zero] at this
    rw [this]; exact h2 j t hj
  · have ns : ∀ o, o = 2 ∨ o = 7 ∨ o = 12 ∨ o = 17 ∨ o = 22 ∨ o = 418 → jrv μ' (M + o) g = jrv μ (M + o) g := fun o ho => rv o g (by omega) (by unfold SR; omega)
    rw [ns 2 (by decide), ns 7 (by decide), ns 12 (by decide), ns 17 (by decide), ns 22 (by decide), ns 418 (by decide)]
    exact h3 g hg
  · have ns : ∀ o, o = 29 ∨ o = 44 ∨ o = 115 ∨ o = 186 ∨ o = 257 ∨ o = 328 → jrv μ' (M + o) t = jrv μ (M + o) t := fun o ho => rv o t (by omega) (by unfold SR; omega)
    have nt : ∀ o j, o = 45 ∨ o = 116 ∨ o = 187 ∨ o = 258 ∨ o = 329 → jrv μ' (M + o + 5 * t) j = jrv μ (M + o + 5 * t) j := fun o j ho => by
      rw [Nat.add_assoc]
      exact rv (o + 5 * t) j (by omega) (by unfold SR; omega)
    rw [ns 29 (by decide), ns 44 (by decide), ns 115 (by decide), ns 186 (by decide), ns 257 (by decide), ns 328 (by decide)]
    refine ⟨(h4 t ht).1, (h4 t ht).2.1, fun g hg => ?_⟩
    rw [nt 45 g (by decide), nt 116 g (by decide), nt 187 g (by decide), nt 258 g (by decide), nt 329 g (by decide)]
    exact (h4 t ht).2.2 g hg
theorem QS.kd (h : QS μ M) {o a : Nat} (ho : o < 424) (ha : a = M + o) : jk μ a = (mkd o).1 ∧ jl μ a = (mkd o).2 := by
  subst ha; exact h.1 o ho
theorem QS.k13 (h : QS μ M) : jk μ M = 13 := (h.1 0 (by decide)).1
/-- the grids' arrays -/
theorem QS.gk (h : QS μ M) (hg : g < 4) : (jk μ (M + 3 + g) = 20 ∧ jl μ (M + 3 + g) = 8) ∧ (jk μ (M + 8 + g) = 20 ∧ jl μ (M + 8 + g) = 24) ∧ (jk μ (M + 13 + g) = 20 ∧ jl μ (M + 13 + g) = 24) ∧ (jk μ (M + 18 + g) = 20 ∧ jl μ (M + 18 + g) = 24) ∧ (jk μ (M + 23 + g) = 33 ∧ jl μ (M + 23 + g) = 24) ∧ (jk μ (M + 419 + g) = 20 ∧ jl μ (M + 419 + g) = 40) := by
  rcases (show g = 0 ∨ g = 1 ∨ g = 2 ∨ g = 3 by omega) with rfl | rfl | rfl | rfl
  all_goals exact ⟨h.kd (by decide) (Nat.add_assoc _ _ _), h.kd (by decide) (Nat.add_assoc _ _ _), h.kd (by decide) (Nat.add_assoc _ _ _), h.kd (by decide) (Nat.add_assoc _ _ _), h.kd (by decide) (Nat.add_assoc _ _ _), h.kd (by decide) (Nat.add_assoc _ _ _)⟩
theorem QS.ak (h : QS μ M) (ht : t < 14) (hg : g < 4) : (jk μ (M + 30 + t) = 20 ∧ jl μ (M + 30 + t) = 4) ∧ (jk μ (M + 46 + 5 * t + g) = 20 ∧ jl μ (M + 46 + 5 * t + g) = 8) ∧ (jk μ (M + 117 + 5 * t + g) = 20 ∧ jl μ (M + 117 + 5 * t + g) = 24) ∧ (jk μ (M + 188 + 5 * t + g) = 20 ∧ jl μ (M + 188 + 5 * t + g) = 24) ∧ (jk μ (M + 259 + 5 * t + g) = 20 ∧ jl μ (M + 259 + 5 * t + g) = 24) ∧ (jk μ (M + 330 + 5 * t + g) = 33 ∧ jl μ (M + 330 + 5 * t + g) = 24) := by
  have a1 := h.kd (o := 30 + t) (a := M + 30 + t) (by omega) (by omega)
  have a2 := h.kd (o := 46 + 5 * t + g) (a := M + 46 + 5 * t + g) (by omega) (by omega)
  have a3 := h.kd (o := 117 + 5 * t + g) (a := M + 117 + 5 * t + g) (by omega) (by omega)
  have a4 := h.kd (o := 188 + 5 * t + g) (a := M + 188 + 5 * t + g) (by omega) (by omega)
  have a5 := h.kd (o := 259 + 5 * t + g) (a := M + 259 + 5 * t + g) (by omega) (by omega)
  have a6 := h.kd (o := 330 + 5 * t + g) (a := M + 330 + 5 * t + g) (by omega) (by omega)
  have e1 : mkd (30 + t) = (20, 4) := by
    have : ∀ t : Fin 14, mkd (30 + t.val) = (20, 4) := by decide
    exact this ⟨t, ht⟩
  have e2 : mkd (46 + 5 * t + g) = (20, 8) := by
    have : ∀ (t : Fin 14) (g : Fin 4), mkd (46 + 5 * t.val + g.val) = (20, 8) := by decide
    exact this ⟨t, ht⟩ ⟨g, hg⟩
  have e3 : mkd (117 + 5 * t + g) = (20, 24) := by
    have : ∀ (t : Fin 14) (g : Fin 4), mkd (117 + 5 * t.val + g.val) = (20, 24) := by decide
    exact this ⟨t, ht⟩ ⟨g, hg⟩
  have e4 : mkd (188 + 5 * t + g) = (20, 24) := by
    have : ∀ (t : Fin 14) (g : Fin 4), mkd (188 + 5 * t.val + g.val) = (20, 24) := by decide
    exact this ⟨t, ht⟩ ⟨g, hg⟩
  have e5 : mkd (259 + 5 * t + g) = (20, 24) := by
    have : ∀ (t : Fin 14) (g : Fin 4), mkd (259 + 5 * t.val + g.val) = (20, 24) := by decide
    exact this ⟨t, ht⟩ ⟨g, hg⟩
  have e6 : mkd (330 + 5 * t + g) = (33, 24) := by
    have : ∀ (t : Fin 14) (g : Fin 4), mkd (330 + 5 * t.val + g.val) = (33, 24) := by decide
    exact this ⟨t, ht⟩ ⟨g, hg⟩
  rw [e1] at a1; rw [e2] at a2; rw [e3] at a3; rw [e4] at a4; rw [e5] at a5; rw [e6] at a6
  exact ⟨a1, a2, a3, a4, a5, a6⟩
/-- an entry of an array of references -/
theorem refGet {a i b l : Nat} (hk : 30 ≤ jk μ a ∧ jk μ a < 36) (hl : jl μ a = l) (hi : i < l) (h9 : l < 1000) (hr : jrv μ a i = some b) : jaR μ (.ref a) (N i) = some (.ref b) := by
  rw [aR_eq, if_pos ⟨hk, by rw [jinb_N (by omega), hl]; exact decide_eq_true hi⟩, N_nat (by omega), hr]; rfl
theorem refGet' {a i l : Nat} (hk : 30 ≤ jk μ a ∧ jk μ a < 36) (hl : jl μ a = l) (hi : i < l) (h9 : l < 1000) : jaR μ (.ref a) (N i) = some (va_rf (jrv μ a i)) := by
  rw [aR_eq, if_pos ⟨hk, by rw [jinb_N (by omega), hl]; exact decide_eq_true hi⟩, N_nat (by omega)]
theorem refSet {a i l : Nat} {r : Option Nat} (hk : jk μ a = 33) (hl : jl μ a = l) (hi : i < l) (h9 : l < 1000) (hr : ∀ b, r = some b → jk μ b = 20) : jsR μ (.ref a) (N i) (va_rf r) = some (jsetR μ a i r) := by
  have ho : jokel μ 33 (va_rf r) = true := by
    cases r with
    | none => rfl
    | some b =>
      show (jty μ b).any (fun q => q.1 == jel 33) = true
      rw [jt_of (hr b rfl) (by decide)]; rfl
  rw [sR_eq, hk, if_pos ⟨by decide, by rw [jinb_N (by omega), hl]; exact decide_eq_true hi, ho⟩, N_nat (by omega)]
  cases r <;> rfl
/-- the rows of references of the grids -/
theorem QS.gr (h : QS μ M) (hg : g < 4) : jaR μ (.ref (M + 2)) (N g) = some (.ref (M + 3 + g)) ∧ jaR μ (.ref (M + 7)) (N g) = some (.ref (M + 8 + g)) ∧ jaR μ (.ref (M + 12)) (N g) = some (.ref (M + 13 + g)) ∧ jaR μ (.ref (M + 17)) (N g) = some (.ref (M + 18 + g)) ∧ jaR μ (.ref (M + 22)) (N g) = some (.ref (M + 23 + g)) ∧ jaR μ (.ref (M + 418)) (N g) = some (.ref (M + 419 + g)) := by
  obtain ⟨a1, a2, a3, a4, a5, a6⟩ := h.2.2.1 g hg
  have k2 := h.kd (o := 2) (by decide) rfl
  have k7 := h.kd (o := 7) (by decide) rfl
  have k12 := h.kd (o := 12) (by decide) rfl
  have k17 := h.kd (o := 17) (by decide) rfl
  have k22 := h.kd (o := 22) (by decide) rfl
  have k418 := h.kd (o := 418) (by decide) rfl
  exact ⟨refGet (by rw [k2.1]; decide) k2.2 hg (by decide) a1, refGet (by rw [k7.1]; decide) k7.2 hg (by decide) a2, refGet (by rw [k12.1]; decide) k12.2 hg (by decide) a3, refGet (by rw [k17.1]; decide) k17.2 hg (by decide) a4, refGet (by rw [k22.1]; decide) k22.2 hg (by decide) a5, refGet (by rw [k418.1]; decide) k418.2 hg (by decide) a6⟩
theorem QS.f (h : QS μ M) : jrv μ M 0 = some (M + 1) ∧ jrv μ M 1 = some (M + 2) ∧ jrv μ M 2 = some (M + 7) ∧ jrv μ M 3 = some (M + 12) ∧ jrv μ M 4 = some (M + 17) ∧ jrv μ M 5 = some (M + 22) :=
  ⟨h.2.1 0 1 rfl, h.2.1 1 2 rfl, h.2.1 2 7 rfl, h.2.1 3 12 rfl, h.2.1 4 17 rfl, h.2.1 5 22 rfl⟩
theorem aR_setI {a k : Nat} {v : Int32} : jaR (jsetI μ a k v) = jaR μ := rfl
theorem aR_rowI {a : Nat} {f : Nat → Int32} : jaR (jrowI μ a f) = jaR μ := rfl
theorem aR_setR {a b k : Nat} {v : Option Nat} {y : Int32} (h : b ≠ a) : jaR (jsetR μ a k v) (.ref b) y = jaR μ (.ref b) y := by
  rw [aR_eq, aR_eq]
  simp only [jk_setR, jl_setR, rv_setRn h]
theorem aR_rowR {a b : Nat} {f : Nat → Option Nat} {y : Int32} (h : b ≠ a) : jaR (jrowR μ a f) (.ref b) y = jaR μ (.ref b) y := by
  rw [aR_eq, aR_eq]
  simp only [jk_rowR, jl_rowR, rv_rowRn h]
end REF
