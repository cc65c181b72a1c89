/-! THE REFERENCE's STATE: what it holds -/
def MRg (μ : jM) (M : Nat) (G : Nat → DG) : Prop := ∀ g, g < 4 → GVR μ (M + 424) (mA M g) ∧ dM μ (mA M g) = G g
def MRr (μ : jM) (M : Nat) (R : Nat → Nat × Nat) : Prop := ∀ c, c < 3 → jiv μ (M + 27) c = N (R c).1 ∧ jiv μ (M + 28) c = N (R c).2
def MRu (μ : jM) (M : Nat) (U : List (Nat → DG)) : Prop := U.length ≤ 6 ∧ jiv μ M 14 = N U.length ∧ ∀ i b, U[i]? = some b → ∀ g, g < 3 → GVR μ (M + 424) (aA M (U.length - 1 - i) g) ∧ dM μ (aA M (U.length - 1 - i) g) = b g
def MRi (μ : jM) (M : Nat) (I : Option PB) : Prop := (I = none ∧ jiv μ M 49 = N 0) ∨ ∃ b, I = some b ∧ jiv μ M 49 = N 1 ∧ (∀ g, g < 4 → GVR μ (M + 424) (aA M 6 g) ∧ dM μ (aA M 6 g) = b.1 g) ∧ (∀ c, c < 3 → jiv μ (M + 415) c = N (b.2.1 c).1 ∧ jiv μ (M + 415) (3 + c) = N (b.2.1 c).2) ∧ b.2.2.length ≤ 6 ∧ jiv μ M 50 = N b.2.2.length ∧ ∀ i v, b.2.2[i]? = some v → ∀ g, g < 3 → GVR μ (M + 424) (aA M (7 + (b.2.2.length - 1 - i)) g) ∧ dM μ (aA M (7 + (b.2.2.length - 1 - i)) g) = v g
def MRt (μ : jM) (M : Nat) (t : List Nat) : Prop := t.length ≤ 40 ∧ jiv μ M 16 = N t.length ∧ ∀ i b, t[i]? = some b → b < 256 ∧ jiv μ (M + 399) i = N b
def MRc (μ : jM) (M : Nat) (l : List CL) : Prop := l.length ≤ 80 ∧ jiv μ M 35 = N l.length ∧ ∀ i c, l[i]? = some c → jiv μ (M + 405) i = c.1 ∧ jiv μ (M + 406) i = c.2.1 ∧ jiv μ (M + 407) i = c.2.2.1 ∧ jiv μ (M + 408) i = c.2.2.2
def MRm (μ : jM) (M : Nat) (m : Bool) : Prop := jiv μ M 36 = if m = true then N 1 else N 0
def MRs (μ : jM) (M : Nat) (s : Nat → Int32 × List Int32) : Prop := ∀ i, i < 4 → jiv μ (M + 416) i = (s i).1 ∧ (s i).2.length ≤ 40 ∧ jiv μ (M + 417) i = N (s i).2.length ∧ ∀ j v, (s i).2[j]? = some v → jiv μ (M + 419 + i) j = v
def MR (μ : jM) (M : Nat) (σ : SG) : Prop := QS μ M ∧ AA μ M ∧ MRg μ M σ.1.1 ∧ MRr μ M σ.1.2.1 ∧ MRu μ M σ.1.2.2 ∧ MRi μ M σ.2.1 ∧ MRt μ M σ.2.2.1 ∧ MRc μ M σ.2.2.2.1 ∧ MRm μ M σ.2.2.2.2.1 ∧ MRs μ M σ.2.2.2.2.2
section LAY
variable {μ μ' ν : jM} {S S' : Nat → Prop} {T T' : Nat → Nat → Prop} {M g h t s n w d D i j k x y a b c : Nat} {A B C : GA} {σ : SG}
theorem GVR.gw (h : GVR μ D A) : GW μ A := h.1
/-- a grid written elsewhere -/
theorem GVR.to (h : GVR μ D A) (F : FD D μ μ') (h1 : GW μ' B) (h2 : rG μ' B = rG μ A) : GVR μ' D B ∧ dM μ' B = dM μ A := by
  obtain ⟨b1, b2⟩ := F.rowm h.2
  exact ⟨⟨h1, by rw [h2]; exact b1⟩, by unfold dM; rw [h2]; exact b2⟩
/-- grids laid aside stay -/
theorem aA_keep (F : Fx S T μ μ') (hS : ∀ a, M + 28 < a → a < M + 399 → ¬ S a) (hT : ∀ a j, M + 28 < a → a < M + 399 → ¬ T a j) (ht : t < 14) (hg : g < 4) (h : GW μ (aA M t g)) : GW μ' (aA M t g) ∧ rG μ' (aA M t g) = rG μ (aA M t g) := by
  refine F.gw h ?_ ?_ ?_ ?_ ?_ (fun j => ?_)
  · exact hS (M + 46 + 5 * t + g) (by omega) (by omega)
  · exact hS (M + 117 + 5 * t + g) (by omega) (by omega)
  · exact hS (M + 188 + 5 * t + g) (by omega) (by omega)
  · exact hS (M + 259 + 5 * t + g) (by omega) (by omega)
  · exact congrFun (F.iv (hS (M + 30 + t) (by omega) (by omega))) _
  · exact hT (M + 330 + 5 * t + g) j (by omega) (by omega)
theorem MRi.keep {I : Option PB} (h : MRi μ M I) (F : FD (M + 424) μ μ') (h1 : jiv μ' M 49 = jiv μ M 49) (h2 : jiv μ' M 50 = jiv μ M 50) (h3 : jiv μ' (M + 415) = jiv μ (M + 415)) (hk : ∀ t g, 6 ≤ t → t < 14 → g < 4 → GW μ (aA M t g) → GW μ' (aA M t g) ∧ rG μ' (aA M t g) = rG μ (aA M t g)) : MRi μ' M I := by
  rcases h with ⟨e, h⟩ | ⟨b, e, a1, a2, a3, a4, a5, a6⟩
  · exact Or.inl ⟨e, by rw [h1]; exact h⟩
  · refine Or.inr ⟨b, e, by rw [h1]; exact a1, fun g hg => ?_, by rw [h3]; exact a3, a4, by rw [h2]; exact a5, fun i v hv g hg => ?_⟩
    · obtain ⟨z1, z2⟩ := a2 g hg
      obtain ⟨y1, y2⟩ := hk 6 g (by decide) (by decide) hg z1.gw
      obtain ⟨x1, x2⟩ := z1.to F y1 y2
      exact ⟨x1, x2.trans z2⟩
    · obtain ⟨z1, z2⟩ := a6 i v hv g hg
      obtain ⟨y1, y2⟩ := hk (7 + (b.2.2.length - 1 - i)) g (by omega) (by omega) (by omega) z1.gw
      obtain ⟨x1, x2⟩ := z1.to F y1 y2
      exact ⟨x1, x2.trans z2⟩
theorem MRu.keep {U : List (Nat → DG)} (h : MRu μ M U) (F : FD (M + 424) μ μ') (h1 : jiv μ' M 14 = jiv μ M 14) (hk : ∀ t g, t < 14 → g < 4 → GW μ (aA M t g) → GW μ' (aA M t g) ∧ rG μ' (aA M t g) = rG μ (aA M t g)) : MRu μ' M U := by
  obtain ⟨a1, a2, a3⟩ := h
  refine ⟨a1, by rw [h1]; exact a2, fun i v hv g hg => ?_⟩
  obtain ⟨z1, z2⟩ := a3 i v hv g hg
  obtain ⟨y1, y2⟩ := hk (U.length - 1 - i) g (by omega) (by omega) z1.gw
  obtain ⟨x1, x2⟩ := z1.to F y1 y2
  exact ⟨x1, x2.trans z2⟩
/-- a change begins -/
theorem MR.chg (h : MR μ M σ) : ∃ μ', jC (d + 2) 189 [.ref M] μ = some (none, μ') ∧ FU M μ μ' ∧ MR μ' M (chg σ) := by
  obtain ⟨hq, hA, hg, hr, ⟨u1, u2, u3⟩, hi, ht, hc, hm, hs⟩ := h
  obtain ⟨μ', c1, F, a1, e14, e35, e36, r1, r2⟩ := r_changes (d := d) hq u2 u1 hA (fun g h => (hg g (by omega)).1.gw)
  have fd : FD (M + 424) μ μ' := F.1.fd (fun a k => by unfold SU at k; omega) (fun a j k => by unfold TU at k; omega)
  have iv : ∀ a, ¬ SU M a → jiv μ' a = jiv μ a := fun a k => F.1.iv k
  have iM : ∀ j, j ≠ 14 → j ≠ 35 → j ≠ 36 → jiv μ' M j = jiv μ M j := F.2
  refine ⟨μ', c1, F, F.qs hq, a1, fun g h => ?_, fun c hc => ?_, ?_, ?_, ?_, ?_, ?_, fun i hi => ?_⟩
  · obtain ⟨z1, z2⟩ := hg g h
    obtain ⟨y1, y2⟩ := F.main h z1.gw
    obtain ⟨x1, x2⟩ := z1.to fd y1 y2
    exact ⟨x1, x2.trans z2⟩
  · rw [iv (M + 27) (by unfold SU; omega), iv (M + 28) (by unfold SU; omega)]; exact hr c hc
  · have el : ((σ.1.1 :: σ.1.2.2).take 6).length = if σ.1.2.2.length = 6 then 6 else σ.1.2.2.length + 1 := by
      rw [List.length_take, List.length_cons]
      split <;> omega
    show ((σ.1.1 :: σ.1.2.2).take 6).length ≤ 6 ∧ jiv μ' M 14 = N ((σ.1.1 :: σ.1.2.2).take 6).length ∧ _
    refine ⟨by rw [List.length_take]; omega, by rw [el]; exact e14, fun i b hb g hg3 => ?_⟩
    have hb : ((σ.1.1 :: σ.1.2.2).take 6)[i]? = some b := hb
    have hi6 : i < ((σ.1.1 :: σ.1.2.2).take 6).length := (List.getElem?_eq_some_iff.mp hb).1
    show GVR μ' (M + 424) (aA M (((σ.1.1 :: σ.1.2.2).take 6).length - 1 - i) g) ∧ dM μ' (aA M (((σ.1.1 :: σ.1.2.2).take 6).length - 1 - i) g) = b g
    rw [el] at hi6 ⊢
    have hi6' : i < 6 := by split at hi6 <;> omega
    rw [List.getElem?_take_of_lt hi6'] at hb
    cases i with
    | zero =>
      have eb : b = σ.1.1 := by
        have : some σ.1.1 = some b := hb
        cases this; rfl
      rw [eb]
      have ep : (if σ.1.2.2.length = 6 then 6 else σ.1.2.2.length + 1) - 1 - 0 = if σ.1.2.2.length = 6 then 5 else σ.1.2.2.length := by split <;> omega
      rw [ep]
      have hp : (if σ.1.2.2.length = 6 then 5 else σ.1.2.2.length) < 14 := by split <;> omega
      obtain ⟨z1, z2⟩ := hg g (by omega)
      obtain ⟨x1, x2⟩ := z1.to fd (a1 _ hp g (by omega)) (r1 g hg3)
      exact ⟨x1, x2.trans z2⟩
    | succ i =>
      have hb : σ.1.2.2[i]? = some b := hb
      have hil : i < σ.1.2.2.length := (List.getElem?_eq_some_iff.mp hb).1
      obtain ⟨z1, z2⟩ := u3 i b hb g hg3
      by_cases e6 : σ.1.2.2.length = 6
      · rw [if_pos e6] at hi6 ⊢
        have q := r2 (6 - 1 - (i + 1)) (by rw [if_pos e6]; omega) g hg3
        rw [if_pos e6, show 6 - 1 - (i + 1) + 1 = σ.1.2.2.length - 1 - i by omega] at q
        obtain ⟨x1, x2⟩ := z1.to fd (a1 (6 - 1 - (i + 1)) (by omega) g (by omega)) q
        exact ⟨x1, x2.trans z2⟩
      · rw [if_neg e6] at hi6 ⊢
        have q := r2 (σ.1.2.2.length + 1 - 1 - (i + 1)) (by rw [if_neg e6]; omega) g hg3
        rw [if_neg e6] at q
        rw [show σ.1.2.2.length - 1 - i = σ.1.2.2.length + 1 - 1 - (i + 1) by omega] at z1 z2
        obtain ⟨x1, x2⟩ := z1.to fd (a1 (σ.1.2.2.length + 1 - 1 - (i + 1)) (by omega) g (by omega)) q
        exact ⟨x1, x2.trans z2⟩
  · exact hi.keep fd (iM 49 (by decide) (by decide) (by decide)) (iM 50 (by decide) (by decide) (by decide)) (iv (M + 415) (by unfold SU; omega)) (fun t g h6 h14 h4 hw => F.rest h14 h6 h4 hw)
  · obtain ⟨b1, b2, b3⟩ := ht
    exact ⟨b1, by rw [iM 16 (by decide) (by decide) (by decide)]; exact b2, by rw [iv (M + 399) (by unfold SU; omega)]; exact b3⟩
  · exact ⟨Nat.zero_le _, e35, fun i c h => by cases h⟩
  · exact e36
  · rw [iv (M + 416) (by unfold SU; omega), iv (M + 417) (by unfold SU; omega), iv (M + 419 + i) (by unfold SU; omega)]
    exact hs i hi
end LAY
