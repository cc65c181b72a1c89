/-! CONSTRUCTORS: the reference at the start -/
section BLDM
variable {μ : jM} {W d : Nat} {L : Nat → Nat × Nat} {I : Nat → Nat → Int32} {R : Nat → Nat → Option Nat}
theorem mr_init : ∃ μ', jC (d + 1) 160 [.ref (jsz μ)] (jnew μ 13 0 56) = some (none, μ') ∧ MR μ' (jsz μ) sg0 ∧ (∃ W L I R, μ' = bld μ 424 W L I R ∧ W < 10000) := by
  obtain ⟨W, L, I, R, c, hW, hL, h0, h1, h2, hs, hI, hR, hA⟩ := r_init (μ := μ) (d := d)
  refine ⟨bld μ 424 W L I R, c, ?_, W, L, I, R, rfl, hW⟩
  have iv : ∀ o j, o < 424 → o ≠ 416 → j < 56 → jiv (bld μ 424 W L I R) (jsz μ + o) j = N 0 := fun o j ho hn hj => by
    rw [bld_iv ho, hI o ho hn j hj]
  have iM : ∀ j, j < 56 → jiv (bld μ 424 W L I R) (jsz μ) j = N 0 := fun j hj => by
    have := iv 0 j (by decide) (by decide) hj
    rw [Nat.add_zero] at this
    exact this
  refine ⟨q_init hL h0 h1 h2, fun t ht g hg => ?_, fun g hg => g_init hI hR hg, fun c hc => ⟨iv 27 c (by decide) (by decide) (by omega), iv 28 c (by decide) (by decide) (by omega)⟩, ⟨by decide, iM 14 (by decide), fun i b hb => ?_⟩, Or.inl ⟨rfl, iM 49 (by decide)⟩, ⟨by decide, iM 16 (by decide), fun i b hb => ?_⟩, ⟨by decide, iM 35 (by decide), fun i b hb => ?_⟩, iM 36 (by decide), fun i hi => ⟨?_, Nat.zero_le _, iv 417 i (by decide) (by decide) (by omega), fun j v hv => ?_⟩⟩
  · have e : jiv (bld μ 424 W L I R) ((aA (jsz μ) t g).1 0) (aA (jsz μ) t g).2 = N 0 := by
      show jiv (bld μ 424 W L I R) (jsz μ + 30 + t) g = N 0
      rw [Nat.add_assoc]
      exact iv (30 + t) g (by omega) (by omega) (by omega)
    refine ⟨by rw [e, vn_0 e], by rw [vn_0 e]; decide, fun j b hb => ?_⟩
    have hb : jrv (bld μ 424 W L I R) (jsz μ + 330 + 5 * t + g) j = some b := hb
    rw [show jsz μ + 330 + 5 * t + g = jsz μ + (330 + 5 * t + g) by omega, bld_rv (by omega), hA t ht g hg j] at hb
    cases hb
  · have hb : ([] : List (Nat → DG))[i]? = some b := hb
    simp at hb
  · have hb : ([] : List Nat)[i]? = some b := hb
    simp at hb
  · have hb : ([] : List CL)[i]? = some b := hb
    simp at hb
  · rw [bld_iv (by decide), hs i hi]
    rfl
  · have hv : ([] : List Int32)[j]? = some v := hv
    simp at hv
end BLDM
