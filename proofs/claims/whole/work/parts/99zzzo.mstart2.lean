/-! CONSTRUCTORS: the reference's empty grids at the start -/
section BLDM
variable {μ : jM} {W D g t : Nat} {L : Nat → Nat × Nat} {I : Nat → Nat → Int32} {R : Nat → Nat → Option Nat}
theorem vn_0 {A : GA} {μ : jM} (h : jiv μ (A.1 0) A.2 = N 0) : vN μ A = 0 := by
  unfold vN
  rw [h]
  rfl
theorem rg_0 {A : GA} {μ : jM} (h : jiv μ (A.1 0) A.2 = N 0) : rG μ A = [] := by
  unfold rG
  rw [vn_0 h]
  rfl
theorem g_init (hI : ∀ o, o < 424 → o ≠ 416 → ∀ j, j < 56 → I o j = N 0) (hR : ∀ g, g < 4 → ∀ j, R (23 + g) j = none) (hg : g < 4) : GVR (bld μ 424 W L I R) D (mA (jsz μ) g) ∧ dM (bld μ 424 W L I R) (mA (jsz μ) g) = [] := by
  have e : jiv (bld μ 424 W L I R) ((mA (jsz μ) g).1 0) (mA (jsz μ) g).2 = N 0 := by
    show jiv (bld μ 424 W L I R) (jsz μ + 1) g = N 0
    rw [bld_iv (by decide), hI 1 (by decide) (by decide) g (by omega)]
  have er := rg_0 e
  refine ⟨⟨⟨by rw [e, vn_0 e], by rw [vn_0 e]; decide, fun j b hb => ?_⟩, fun w hw => ?_⟩, ?_⟩
  · have hb : jrv (bld μ 424 W L I R) (jsz μ + 23 + g) j = some b := hb
    rw [Nat.add_assoc, bld_rv (by omega), hR g hg j] at hb
    cases hb
  · rw [er] at hw
    exact absurd hw List.not_mem_nil
  · unfold dM
    rw [er]
    rfl
end BLDM
