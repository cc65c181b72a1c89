/-! THE REFERENCE's CALLS: undo -/
section LAY
variable {μ μ' ν : jM} {S S' : Nat → Prop} {T T' : Nat → Nat → Prop} {M g h t s n w d D i j k x y a b c : Nat} {A B C : GA} {σ : SG}
theorem FB.fr (F : FB M μ μ') : FR M μ μ' := F.1.mono (fun a k => by unfold SB at k; omega) (fun a j k => by
  have k : M + 23 ≤ a ∧ a < M + 26 := k
  omega)
theorem p_undo (h : MR μ M σ) : ROP M (jC (d + 2) 161 [.ref M] μ) μ (o_undo σ) := by
  obtain ⟨hq, hA, hg, hr, hu, hi, ht, hc, hm, hs⟩ := id h
  unfold o_undo
  cases eU : σ.1.2.2 with
  | nil =>
    rw [eU] at hu
    exact ⟨μ, r_undo0 hq hu.2.1, FR.refl, h⟩
  | cons hd tl =>
    rw [eU] at hu
    obtain ⟨u1, u2, u3⟩ := hu
    have u1 : tl.length + 1 ≤ 6 := u1
    have u2 : jiv μ M 14 = N (tl.length + 1) := u2
    obtain ⟨μ', c1, F, w1, e14, e35, e36, r1⟩ := r_undo (d := d) hq u2 (by omega) hA (fun g h => (hg g (by omega)).1.gw)
    have fd : FD (M + 424) μ μ' := F.1.fd (fun a k => by unfold SB at k; omega) (fun a j k => by
      have k : M + 23 ≤ a ∧ a < M + 26 := k
      omega)
    have iv : ∀ a, M + 22 ≤ a → jiv μ' a = jiv μ a := fun a k => F.1.iv (by unfold SB; omega)
    have iM : ∀ j, j ≠ 14 → j ≠ 35 → j ≠ 36 → jiv μ' M j = jiv μ M j := F.2.1
    refine ⟨μ', c1, F.fr, F.qs hq, fun t ht g hg => (F.aa ht hg (hA t ht g hg)).1, fun g h => ?_, fun c hc => ?_, ⟨show tl.length ≤ 6 by omega, e14, fun i b hb g hg3 => ?_⟩, ?_, ?_, ?_, ?_, fun i hi => ?_⟩
    · by_cases h3 : g < 3
      · obtain ⟨z1, z2⟩ := u3 0 hd rfl g h3
        rw [show (hd :: tl).length - 1 - 0 = tl.length from rfl] at z1 z2
        obtain ⟨x1, x2⟩ := z1.to fd (w1 g h3) (r1 g h3)
        refine ⟨x1, ?_⟩
        show dM μ' (mA M g) = if g < 3 then hd g else σ.1.1 g
        rw [if_pos h3]; exact x2.trans z2
      · have : g = 3 := by omega
        subst this
        obtain ⟨z1, z2⟩ := hg 3 (by decide)
        obtain ⟨y1, y2⟩ := F.m3 z1.gw
        obtain ⟨x1, x2⟩ := z1.to fd y1 y2
        exact ⟨x1, x2.trans z2⟩
    · rw [iv (M + 27) (by omega), iv (M + 28) (by omega)]; exact hr c hc
    · have hb : tl[i]? = some b := hb
      have hil : i < tl.length := (List.getElem?_eq_some_iff.mp hb).1
      obtain ⟨z1, z2⟩ := u3 (i + 1) b hb g hg3
      rw [show (hd :: tl).length - 1 - (i + 1) = tl.length - 1 - i by simp only [List.length_cons]; omega] at z1 z2
      obtain ⟨y1, y2⟩ := F.aa (t := tl.length - 1 - i) (g := g) (by omega) (by omega) z1.gw
      obtain ⟨x1, x2⟩ := z1.to fd y1 y2
      exact ⟨x1, x2.trans z2⟩
    · exact hi.keep fd (iM 49 (by decide) (by decide) (by decide)) (iM 50 (by decide) (by decide) (by decide)) (iv (M + 415) (by omega)) (fun t g _ h14 h4 hw => F.aa h14 h4 hw)
    · obtain ⟨b1, b2, b3⟩ := ht
      exact ⟨b1, by rw [iM 16 (by decide) (by decide) (by decide)]; exact b2, by rw [iv (M + 399) (by omega)]; exact b3⟩
    · exact ⟨Nat.zero_le _, e35, fun i c h => by cases h⟩
    · exact e36
    · rw [iv (M + 416) (by omega), iv (M + 417) (by omega), iv (M + 419 + i) (by omega)]
      exact hs i hi
end LAY
