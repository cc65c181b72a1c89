/-! CONSTRUCTORS: the reference -/
def zL (p k n : Nat) (L : Nat → Nat × Nat) (o : Nat) : Nat × Nat := if o = p then (k, n) else L o
def zI3 (p : Nat) (I : Nat → Nat → Int32) (o j : Nat) : Int32 := if o = p then 0 else I o j
def zR (p : Nat) (R : Nat → Nat → Option Nat) (o j : Nat) : Option Nat := if o = p then none else R o j
def zS (s t : Nat) (R : Nat → Nat → Option Nat) (o j : Nat) : Option Nat := if o = 0 ∧ j = s then some t else R o j
def zV (o k : Nat) (v : Int32) (I : Nat → Nat → Int32) (o' j : Nat) : Int32 := if o' = o ∧ j = k then v else I o' j
section BLDM
variable {μ : jM} {p W k n w o j t m r ko ki kt s i d : Nat} {L : Nat → Nat × Nat} {I : Nat → Nat → Int32} {R : Nat → Nat → Option Nat} {v : Int32}
theorem zt_ref (hp : 0 < p) (hL : (L 0).1 = 13) : jpR (bld μ p W L I R) 13 s (.ref (jsz μ)) (.ref (jsz μ + t)) = some (bld μ p W L I (zS s t R)) :=
  bld_pR (o := 0) (sl := s) (t := t) hp hL (by decide) (fun _ _ _ => pR13)
theorem zt_new (hp : 0 < p) (hL : (L 0).1 = 13) : jpR (jnew (bld μ p W L I R) k n w) 13 s (.ref (jsz μ)) (.ref (jsz (bld μ p W L I R))) = some (bld μ (p + 1) (W + w) (zL p k n L) (zI3 p I) (zS s p (zR p R))) := by
  rw [bld_new, bld_sz]
  exact zt_ref (by omega) (by show (if 0 = p then (k, n) else L 0).1 = 13; rw [if_neg (by omega)]; exact hL)
theorem zt_f2 (hp : 0 < p) (hL : (L 0).1 = 13) : jpR (jfill2 (bld μ p W L I R) ko ki n m i) 13 s (.ref (jsz μ)) (.ref (jsz (bld μ p W L I R))) = some (bld μ (p + 1 + i) (W + n + i * m) (f2L p ko ki n m L) (f2I p I) (zS s p (f2R p i R))) := by
  rw [bld_fill2, bld_sz]
  exact zt_ref (by omega) (by show (if 0 < p then L 0 else _).1 = 13; rw [if_pos hp]; exact hL)
theorem zt_f3 (hp : 0 < p) (hL : (L 0).1 = 13) : jpR (jfill3 (bld μ p W L I R) kt ko ki n m r i) 13 s (.ref (jsz μ)) (.ref (jsz (bld μ p W L I R))) = some (bld μ (p + 1 + i * (1 + m)) (W + n + i * (m + m * r)) (f3L p kt ko ki n m r L) (f2I p I) (zS s p (f3R p i m R))) := by
  rw [bld_fill3, bld_sz]
  exact zt_ref (by omega) (by show (if 0 < p then L 0 else _).1 = 13; rw [if_pos hp]; exact hL)
theorem zt_sI {x : Int32} (hx : x = N k) (ho : o < p) (hL : (L o).1 = 20) (hk : k < (L o).2) (h9 : (L o).2 < 1000) : jsI (bld μ p W L I R) (.ref (jsz μ + o)) x v = some (bld μ p W L (zV o k v I) R) := by
  rw [hx, ent_set (l := (L o).2) (by rw [bld_k ho]; exact hL) (by rw [bld_l ho]) hk h9, bld_setI ho]
  rfl
theorem r_init : ∃ W L I R, jC (d + 1) 160 [.ref (jsz μ)] (jnew μ 13 0 56) = some (none, bld μ 424 W L I R) ∧ W < 10000 ∧ (∀ o, o < 424 → L o = mkd o) ∧ (∀ j, j < 56 → R 0 j = mof j) ∧ (∀ g, g < 4 → R 2 g = some (3 + g) ∧ R 7 g = some (8 + g) ∧ R 12 g = some (13 + g) ∧ R 17 g = some (18 + g) ∧ R 22 g = some (23 + g) ∧ R 418 g = some (419 + g)) ∧ (∀ t, t < 14 → R 29 t = some (30 + t) ∧ (R 44 t = some (45 + 5 * t) ∧ R 115 t = some (116 + 5 * t) ∧ R 186 t = some (187 + 5 * t) ∧ R 257 t = some (258 + 5 * t) ∧ R 328 t = some (329 + 5 * t)) ∧ ∀ g, g < 4 → R (45 + 5 * t) g = some (46 + 5 * t + g) ∧ R (116 + 5 * t) g = some (117 + 5 * t + g) ∧ R (187 + 5 * t) g = some (188 + 5 * t + g) ∧ R (258 + 5 * t) g = some (259 + 5 * t + g) ∧ R (329 + 5 * t) g = some (330 + 5 * t + g)) ∧ (∀ s, s < 4 → I 416 s = NEG) ∧ (∀ o, o < 424 → o ≠ 416 → ∀ j, j < 56 → I o j = N 0) ∧ (∀ g, g < 4 → ∀ j, R (23 + g) j = none) ∧ (∀ t, t < 14 → ∀ g, g < 4 → ∀ j, R (330 + 5 * t + g) j = none) := by
  rw [jC_run (by decide)]
  show ∃ W L I R, jR (d + 1) 160 0 [.ref (jsz μ)] [] (jnew μ 13 0 56) = _ ∧ _
  rw [b160_0, show jnew μ 13 0 56 = bld μ 1 56 (fun _ => (13, 0)) (fun _ _ => 0) (fun _ _ => none) from bld_one]
  rw [zt_new (by decide) rfl, Option.bind_some]
  rw [zt_f2 (by decide) rfl, Option.bind_some]
  rw [zt_f2 (by decide) rfl, Option.bind_some]
  rw [zt_f2 (by decide) rfl, Option.bind_some]
  rw [zt_f2 (by decide) rfl, Option.bind_some]
  rw [zt_f2 (by decide) rfl, Option.bind_some]
  rw [zt_new (by decide) rfl, Option.bind_some]
  rw [zt_new (by decide) rfl, Option.bind_some]
  rw [zt_f2 (by decide) rfl, Option.bind_some]
  rw [zt_f3 (by decide) rfl, Option.bind_some]
  rw [zt_f3 (by decide) rfl, Option.bind_some]
  rw [zt_f3 (by decide) rfl, Option.bind_some]
  rw [zt_f3 (by decide) rfl, Option.bind_some]
  rw [zt_f3 (by decide) rfl, Option.bind_some]
  rw [zt_new (by decide) rfl, Option.bind_some]
  rw [zt_new (by decide) rfl, Option.bind_some]
  rw [zt_new (by decide) rfl, Option.bind_some]
  rw [zt_new (by decide) rfl, Option.bind_some]
  rw [zt_new (by decide) rfl, Option.bind_some]
  rw [zt_new (by decide) rfl, Option.bind_some]
  rw [zt_new (by decide) rfl, Option.bind_some]
  rw [zt_new (by decide) rfl, Option.bind_some]
  rw [zt_new (by decide) rfl, Option.bind_some]
  rw [zt_new (by decide) rfl, Option.bind_some]
  rw [zt_new (by decide) rfl, Option.bind_some]
  rw [zt_new (by decide) rfl, Option.bind_some]
  rw [zt_new (by decide) rfl, Option.bind_some]
  rw [zt_new (by decide) rfl, Option.bind_some]
  rw [zt_new (by decide) rfl, Option.bind_some]
  rw [zt_new (by decide) rfl, Option.bind_some]
  rw [zt_new (by decide) rfl, Option.bind_some]
  rw [bld_new, bld_sz]
  rw [zt_sI (x := 0) (k := 0) rfl (by decide) rfl (by decide) (by decide), Option.bind_some]
  rw [zt_sI (x := 1) (k := 1) rfl (by decide) rfl (by decide) (by decide), Option.bind_some]
  rw [zt_sI (x := 2) (k := 2) rfl (by decide) rfl (by decide) (by decide), Option.bind_some]
  rw [zt_sI (x := 3) (k := 3) rfl (by decide) rfl (by decide) (by decide), Option.bind_some]
  rw [zt_ref (by decide) rfl, Option.bind_some]
  rw [zt_new (by decide) rfl, Option.bind_some]
  rw [zt_f2 (by decide) rfl, Option.bind_some]
  rw [zt_new (by decide) rfl, Option.bind_some]
  refine ⟨_, _, _, _, rfl, by decide +kernel, by decide +kernel, by decide +kernel, by decide +kernel, by decide +kernel, by decide +kernel, by decide +kernel, ?_, ?_⟩
  · intro g hg j
    rcases (show g = 0 ∨ g = 1 ∨ g = 2 ∨ g = 3 by omega) with rfl | rfl | rfl | rfl <;> rfl
  · intro t ht g hg j
    rcases (show t = 0 ∨ t = 1 ∨ t = 2 ∨ t = 3 ∨ t = 4 ∨ t = 5 ∨ t = 6 ∨ t = 7 ∨ t = 8 ∨ t = 9 ∨ t = 10 ∨ t = 11 ∨ t = 12 ∨ t = 13 by omega) with rfl | rfl | rfl | rfl | rfl | rfl | rfl | rfl | rfl | rfl | rfl | rfl | rfl | rfl <;> rcases (show g = 0 ∨ g = 1 ∨ g = 2 ∨ g = 3 by omega) with rfl | rfl | rfl | rfl <;> rfl
end BLDM
