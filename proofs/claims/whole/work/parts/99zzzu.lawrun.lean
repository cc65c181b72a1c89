/-! THE LAW, whole: from a memory that holds what is constant, and the script -/
section LRUN
variable {μ μ' : jM} {X S n i k w d B p W m v : Nat} {f : Nat → Int32} {L : Nat → Nat × Nat} {I : Nat → Nat → Int32} {R : Nat → Nat → Option Nat} {P : Nat → Prop} {Q : Nat → Nat → Prop}
theorem bld_fa (h : JW μ) : Fa (fun _ => False) (fun _ _ => False) p W μ (bld μ p W L I R) := by
  refine ⟨rfl, ⟨Nat.le_add_right _ _, Nat.le_refl _⟩, ⟨Nat.le_add_right _ _, Nat.le_refl _⟩, fun a ha => ?_, fun a ha _ => ?_, fun a j ha _ => ?_, fun a ha => ?_⟩
  · show (if jsz μ ≤ a ∧ a < jsz μ + p then some (L (a - jsz μ)) else μ.2.1 a) = μ.2.1 a
    rw [if_neg (by omega)]
  · funext j
    show (if jsz μ ≤ a ∧ a < jsz μ + p then I (a - jsz μ) j else μ.2.2.1 a j) = μ.2.2.1 a j
    rw [if_neg (by omega)]
  · show (if jsz μ ≤ a ∧ a < jsz μ + p then (R (a - jsz μ) j).map (fun t => jsz μ + t) else μ.2.2.2.1 a j) = μ.2.2.2.1 a j
    rw [if_neg (by omega)]
  · have ha : jsz μ + p ≤ a := ha
    show (if jsz μ ≤ a ∧ a < jsz μ + p then some (L (a - jsz μ)) else μ.2.1 a) = none
    rw [if_neg (by omega)]
    exact h a (by omega)
theorem JA.fa (h : JA μ B) (hj : JW μ) (F : Fa P Q m v μ μ') (hP : ∀ b, b < B → ¬ P b) : JA μ' B := by
  obtain ⟨g1, t, g2, g3, g4, g5, g6⟩ := h
  have ht := hj.lt (ne99 g4 (by decide))
  refine ⟨g1.of F.1, t, by rw [F.1]; exact g2, g3, by rw [F.kk ht]; exact g4, by rw [F.ll ht]; exact g5, ?_⟩
  rw [F.iv ht (hP t g3)]; exact g6
theorem law_start (hj : JW μ) (hk : KX μ B) (ha : JA μ B) (hB : B ≤ jsz μ) (hs : SC μ (jsz μ) S n f) : ∃ μ', jR (d + 460) 10 0 [.ref S, .retAddr 0, .retAddr 0, .retAddr 0] [] μ = jR (d + 460) 10 18 [.ref S, .ref (jsz μ), .ref (jsz μ + 342), .int (N 0)] [] μ' ∧ LWS μ' (jsz μ) S n f sg0 ∧ Gw 766 17514 μ μ' := by
  have F1 : Fa (fun _ => False) (fun _ _ => False) 342 7514 μ (bld μ 342 7514 LZ1 IZ1 RZ1) := bld_fa hj
  obtain ⟨μ2, c2, m2, W2, L2, I2, R2, e2, hW2⟩ := mr_init (μ := bld μ 342 7514 LZ1 IZ1 RZ1) (d := d + 458)
  have F2 : Fa (fun _ => False) (fun _ _ => False) 424 W2 (bld μ 342 7514 LZ1 IZ1 RZ1) μ2 := by
    rw [e2]
    exact bld_fa F1.jw
  have hz : jsz μ2 = jsz μ + 342 + 424 := by rw [e2]; rfl
  have at1 : AtX μ2 (jsz μ) := fun o ho => by
    have hl : jsz μ + o < jsz (bld μ 342 7514 LZ1 IZ1 RZ1) := by
      rw [bld_sz]
      omega
    refine ⟨by rw [F2.kk hl, bld_k ho], by rw [F2.ll hl, bld_l ho], fun j => ?_, fun j => ?_⟩
    · rw [F2.iv hl (fun q => q), bld_iv ho]
    · rw [F2.rv hl (fun q => q), bld_rv ho]
  have kx := (hk.fa hj F1 (fun _ _ q => q) (fun _ _ _ q => q)).fa F1.jw F2 (fun _ _ q => q) (fun _ _ _ q => q)
  have ja := (ha.fa hj F1 (fun _ _ q => q)).fa F1.jw F2 (fun _ _ q => q)
  refine ⟨μ2, ?_, ⟨⟨F2.jw, ⟨B, hB, kx, ja⟩, by rw [hz]; omega⟩, ax_xr at1, m2, wf_0, (hs.fa hj F1 (fun q => q)).fa F1.jw F2 (fun q => q)⟩, ?_⟩
  · have c1 : jC (d + 459) 11 [.ref (jsz μ)] (jnew μ 12 0 15) = some (none, bld μ 342 7514 LZ1 IZ1 RZ1) := ct_11 (d := d + 456)
    have c2 : jC (d + 459) 160 [.ref (jsz (bld μ 342 7514 LZ1 IZ1 RZ1))] (jnew (bld μ 342 7514 LZ1 IZ1 RZ1) 13 0 56) = some (none, μ2) := c2
    rw [b10_0 (h0 := ir_ref), c1, Option.bind_some]
    show jR (d + 460) 10 7 [.ref S, .retAddr 0, .retAddr 0, .retAddr 0] [.ref (jsz μ)] (bld μ 342 7514 LZ1 IZ1 RZ1) = _
    rw [b10_7 (h0 := ir_ref), c2, Option.bind_some]
    show jR (d + 460) 10 15 [.ref S, .ref (jsz μ), .retAddr 0, .retAddr 0] [.ref (jsz μ + 342)] μ2 = _
    rw [b10_15 (h0 := ir_ref)]
    rfl
  · exact ((Gw.of F1).trans (Gw.of F2)).up (by decide) (by omega)
theorem law_run (hj : JW μ) (hk : KX μ B) (ha : JA μ B) (hB : B ≤ jsz μ) (hs : SC μ (jsz μ) S n f) : ∃ μ', jR (d + 460) 10 0 [.ref S, .retAddr 0, .retAddr 0, .retAddr 0] [] μ = some (some (.int (N 1)), μ') ∧ Gw 600000 7302250 μ μ' := by
  have hn := hs.2.2.2.1
  obtain ⟨μ1, c1, h1, g1⟩ := law_start (d := d) hj hk ha hB hs
  obtain ⟨μ2, σ2, c2, -, g2⟩ := law_loop (d := d) 512 0 μ1 sg0 (by omega) (by omega) h1
  exact ⟨μ2, c1.trans c2, (g1.trans g2).up (by decide) (by decide)⟩
end LRUN
