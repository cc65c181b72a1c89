/-! CONSTRUCTORS: the reference's shape at the start -/
section BLDM
variable {μ : jM} {W : Nat} {L : Nat → Nat × Nat} {I : Nat → Nat → Int32} {R : Nat → Nat → Option Nat}
theorem q_init (hL : ∀ o, o < 424 → L o = mkd o) (h0 : ∀ j, j < 56 → R 0 j = mof j) (h1 : ∀ g, g < 4 → R 2 g = some (3 + g) ∧ R 7 g = some (8 + g) ∧ R 12 g = some (13 + g) ∧ R 17 g = some (18 + g) ∧ R 22 g = some (23 + g) ∧ R 418 g = some (419 + g)) (h2 : ∀ t, t < 14 → R 29 t = some (30 + t) ∧ (R 44 t = some (45 + 5 * t) ∧ R 115 t = some (116 + 5 * t) ∧ R 186 t = some (187 + 5 * t) ∧ R 257 t = some (258 + 5 * t) ∧ R 328 t = some (329 + 5 * t)) ∧ ∀ g, g < 4 → R (45 + 5 * t) g = some (46 + 5 * t + g) ∧ R (116 + 5 * t) g = some (117 + 5 * t + g) ∧ R (187 + 5 * t) g = some (188 + 5 * t + g) ∧ R (258 + 5 * t) g = some (259 + 5 * t + g) ∧ R (329 + 5 * t) g = some (330 + 5 * t + g)) : QS (bld μ 424 W L I R) (jsz μ) := by
  have rv : ∀ o j t, o < 424 → R o j = some t → jrv (bld μ 424 W L I R) (jsz μ + o) j = some (jsz μ + t) := fun o j t ho e => by
    rw [bld_rv ho, e]
    rfl
  have mo : ∀ j t, mof j = some t → j < 56 := fun j t h => by
    refine Nat.lt_of_not_le fun q => ?_
    simp only [mof, if_neg (show ¬ j = 0 by omega), if_neg (show ¬ j = 1 by omega), if_neg (show ¬ j = 2 by omega), if_neg (show ¬ j = 3 by omega), if_neg (show ¬ j = 4 by omega), if_neg (show ¬ j = 5 by omega), if_neg (show ¬ j = 6 by omega), if_neg (show ¬ j = 7 by omega), if_neg (show ¬ j = 8 by omega), if_neg (show ¬ j = 9 by omega), if_neg (show ¬ j = 10 by omega), if_neg (show ¬ j = 11 by omega), if_neg (show ¬ j = 12 by omega), if_neg (show ¬ j = 13 by omega), if_neg (show ¬ j = 14 by omega), if_neg (show ¬ j = 15 by omega), if_neg (show ¬ j = 16 by omega), if_neg (show ¬ j = 17 by omega), if_neg (show ¬ j = 18 by omega), if_neg (show ¬ j = 19 by omega), if_neg (show ¬ j = 20 by omega), if_neg (show ¬ j = 21 by omega), if_neg (show ¬ j = 22 by omega), if_neg (show ¬ j = 23 by omega), if_neg (show ¬ j = 24 by omega), if_neg (show ¬ j = 25 by omega), if_neg (show ¬ j = 26 by omega), if_neg (show ¬ j = 27 by omega), if_neg (show ¬ j = 28 by omega), if_neg (show ¬ j = 29 by omega), if_neg (show ¬ j = 30 by omega), if_neg (show ¬ j = 31 by omega), if_neg (show ¬ j = 32 by omega), if_neg (show ¬ j = 33 by omega), if_neg (show ¬ j = 34 by omega), if_neg (show ¬ j = 35 by omega), if_neg (show ¬ j = 36 by omega), if_neg (show ¬ j = 37 by omega), if_neg (show ¬ j = 38 by omega), if_neg (show ¬ j = 39 by omega), if_neg (show ¬ j = 40 by omega), if_neg (show ¬ j = 41 by omega), if_neg (show ¬ j = 42 by omega), if_neg (show ¬ j = 43 by omega), if_neg (show ¬ j = 44 by omega), if_neg (show ¬ j = 45 by omega), if_neg (show ¬ j = 46 by omega), if_neg (show ¬ j = 47 by omega), if_neg (show ¬ j = 48 by omega), if_neg (show ¬ j = 49 by omega), if_neg (show ¬ j = 50 by omega), if_neg (show ¬ j = 51 by omega), if_neg (show ¬ j = 52 by omega), if_neg (show ¬ j = 53 by omega), if_neg (show ¬ j = 54 by omega), if_neg (show ¬ j = 55 by omega)] at h
    cases h
  refine ⟨fun o ho => ⟨by rw [bld_k ho, hL o ho], by rw [bld_l ho, hL o ho]⟩, fun j t h => ?_, fun g hg => ?_, fun t ht => ?_⟩
  · have := rv 0 j t (by decide) (by rw [h0 j (mo j t h)]; exact h)
    rw [Nat.add_zero] at this
    exact this
  · obtain ⟨a1, a2, a3, a4, a5, a6⟩ := h1 g hg
    have b1 := rv _ _ _ (by decide) a1
    have b2 := rv _ _ _ (by decide) a2
    have b3 := rv _ _ _ (by decide) a3
    have b4 := rv _ _ _ (by decide) a4
    have b5 := rv _ _ _ (by decide) a5
    have b6 := rv _ _ _ (by decide) a6
    simp only [← Nat.add_assoc] at b1 b2 b3 b4 b5 b6
    exact ⟨b1, b2, b3, b4, b5, b6⟩
  · obtain ⟨a1, ⟨a2, a3, a4, a5, a6⟩, a7⟩ := h2 t ht
    have b1 := rv _ _ _ (by decide) a1
    have b2 := rv _ _ _ (by decide) a2
    have b3 := rv _ _ _ (by decide) a3
    have b4 := rv _ _ _ (by decide) a4
    have b5 := rv _ _ _ (by decide) a5
    have b6 := rv _ _ _ (by decide) a6
    simp only [← Nat.add_assoc] at b1 b2 b3 b4 b5 b6
    refine ⟨b1, ⟨b2, b3, b4, b5, b6⟩, fun g hg => ?_⟩
    obtain ⟨c1, c2, c3, c4, c5⟩ := a7 g hg
    have d1 := rv _ _ _ (by omega) c1
    have d2 := rv _ _ _ (by omega) c2
    have d3 := rv _ _ _ (by omega) c3
    have d4 := rv _ _ _ (by omega) c4
    have d5 := rv _ _ _ (by omega) c5
    simp only [← Nat.add_assoc] at d1 d2 d3 d4 d5
    exact ⟨d1, d2, d3, d4, d5⟩
end BLDM
