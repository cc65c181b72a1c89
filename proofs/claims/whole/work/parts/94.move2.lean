section LAY
variable {μ μ' ν : jM} {S S' : Nat → Prop} {T T' : Nat → Nat → Prop} {M g h t s n w d D i j k x y a b c : Nat} {A B C : GA}
/-- a grid that a change passes by -/
theorem Fx.gw (F : Fx S T μ μ') (h : GW μ A) (h1 : ¬ S (A.1 1)) (h2 : ¬ S (A.1 2)) (h3 : ¬ S (A.1 3)) (h5 : ¬ S (A.1 5)) (h0 : jiv μ' (A.1 0) A.2 = jiv μ (A.1 0) A.2) (h4 : ∀ j, ¬ T (A.1 4) j) : GW μ' A ∧ rG μ' A = rG μ A := by
  have r4 : jrv μ' (A.1 4) = jrv μ (A.1 4) := funext fun j => F.rv (h4 j)
  obtain ⟨e1, e2⟩ := rG_same (A := A) h0 (F.iv h1) (F.iv h2) (F.iv h3) r4 (F.iv h5)
  obtain ⟨a1, a2, a3⟩ := h
  exact ⟨⟨by rw [e2, h0]; exact a1, by rw [e2]; exact a2, fun j b hb => by rw [r4] at hb; rw [F.kk]; exact a3 j b hb⟩, e1⟩
theorem SA_a (hs : s < 14) (hg : g < 4) (h : SA (aA M s g) a) : a = M + 30 + s ∨ a = M + 46 + 5 * s + g ∨ a = M + 117 + 5 * s + g ∨ a = M + 188 + 5 * s + g ∨ a = M + 259 + 5 * s + g := h
/-- the other grids laid aside at the place -/
theorem cpF_side (hs : s < 14) (hg : g < 4) (hh : h < 4) (hne : h ≠ g) (F : Fx (SA (aA M s g)) (fun a _ => a = M + 330 + 5 * s + g) μ μ') (h0 : ∀ j, j ≠ g → jiv μ' (M + 30 + s) j = jiv μ (M + 30 + s) j) (hG : GW μ (aA M s h)) : GW μ' (aA M s h) ∧ rG μ' (aA M s h) = rG μ (aA M s h) := by
  refine F.gw hG (fun k => ?_) (fun k => ?_) (fun k => ?_) (fun k => ?_) (h0 h hne) (fun j k => ?_)
  · have k := SA_a (a := M + 46 + 5 * s + h) hs hg k; omega
  · have k := SA_a (a := M + 117 + 5 * s + h) hs hg k; omega
  · have k := SA_a (a := M + 188 + 5 * s + h) hs hg k; omega
  · have k := SA_a (a := M + 259 + 5 * s + h) hs hg k; omega
  · have k : M + 330 + 5 * s + h = M + 330 + 5 * s + g := k; omega
theorem F3s.refl : F3s M s μ μ := ⟨Fx.refl, rfl⟩
/-- a place of grids elsewhere -/
theorem F3s.other (F : F3s M s μ μ') (hs : s < 14) (ht : t < 14) (hne : t ≠ s) (hh : h < 4) (hG : GW μ (aA M t h)) : GW μ' (aA M t h) ∧ rG μ' (aA M t h) = rG μ (aA M t h) := by
  have n : ∀ a, (a = M + 30 + t ∨ a = M + 46 + 5 * t + h ∨ a = M + 117 + 5 * t + h ∨ a = M + 188 + 5 * t + h ∨ a = M + 259 + 5 * t + h) → ¬ ∃ g, g < 3 ∧ SA (aA M s g) a := by
    rintro a ha ⟨g, hg, k⟩
    have k := SA_a hs (by omega) k
    omega
  refine F.1.gw hG (n (M + 46 + 5 * t + h) (by omega)) (n (M + 117 + 5 * t + h) (by omega)) (n (M + 188 + 5 * t + h) (by omega)) (n (M + 259 + 5 * t + h) (by omega)) ?_ (fun j => ?_)
  · show jiv μ' (M + 30 + t) h = jiv μ (M + 30 + t) h
    rw [F.1.iv (n (M + 30 + t) (by omega))]
  · rintro ⟨g, hg, k⟩
    have k : M + 330 + 5 * t + h = M + 330 + 5 * s + g := k
    omega
theorem F3s.trans (a : F3s M s μ μ') (b : F3s M s μ' ν) : F3s M s μ ν := ⟨a.1.trans b.1, b.2.trans a.2⟩
theorem F3s.qs (F : F3s M s μ μ') (hs : s < 14) (hq : QS μ M) : QS μ' M := F.1.qs hq (fun a j ⟨g, h1, h2⟩ => Or.inr (Or.inr (Or.inl (by omega))))
/-- one grid's writing over, as a change of the place -/
theorem cpF_f3 (hs : s < 14) (hg : g < 3) (F : Fx (SA (aA M s g)) (fun a _ => a = M + 330 + 5 * s + g) μ μ') (h0 : ∀ j, j ≠ g → jiv μ' (M + 30 + s) j = jiv μ (M + 30 + s) j) : F3s M s μ μ' :=
  ⟨F.mono (fun a k => ⟨g, hg, k⟩) (fun a j k => ⟨g, hg, k⟩), h0 3 (by omega)⟩
theorem r_moveAside (hq : QS μ M) (ht : t < 14) (hs : s < 14) (hts : t ≠ s) (hA : A3 μ M t) (hB : A3 μ M s) : ∃ μ', jC (d + 1) 190 [.ref M, .int (N t), .int (N s)] μ = some (none, μ') ∧ F3s M s μ μ' ∧ A3 μ' M s ∧ ∀ g, g < 3 → rG μ' (aA M s g) = rG μ (aA M t g) := by
  have loop : ∀ (m g : Nat) (μ1 : jM) (u4 : Value), g + m = 3 → F3s M s μ μ1 → QS μ1 M → A3 μ1 M s → (∀ h, h < g → rG μ1 (aA M s h) = rG μ (aA M t h)) → ∃ μ', jR (d + 1) 190 2 [.ref M, .int (N t), .int (N s), .int (N g), u4] [] μ1 = some (none, μ') ∧ F3s M s μ μ' ∧ A3 μ' M s ∧ ∀ g, g < 3 → rG μ' (aA M s g) = rG μ (aA M t g) := by
    intro m
    induction m with
    | zero =>
      intro g μ1 u4 hg F q a3 hv
      have : g = 3 := by omega
      subst this
      exact ⟨μ1, by rw [b190_2, if_neg (by decide)], F, a3, hv⟩
    | succ m ih =>
      intro g μ1 u4 hg F q a3 hv
      have hg4 : g < 4 := by omega
      obtain ⟨o1, o2⟩ := F.other hs ht hts hg4 (hA g hg4)
      have F1 : Fx (SA (aA M s g)) (fun a _ => a = M + 330 + 5 * s + g) μ1 (cpF (gcI μ1 (aA M t g) (aA M s g)) (aA M t g) (aA M s g) 24) := cpF_fr
      obtain ⟨e1, e2, e3⟩ := cpF_rd (aA_ok (M := M) hg4 hs) (aa_dis (M := M) hg4 hg4 ht hs hts) o1 (a3 g hg4).2.2
      have st := moveStep (d := d) (u4 := u4) q ht hs hts (show g < 3 by omega) o1.2.2
      generalize cpF (gcI μ1 (aA M t g) (aA M s g)) (aA M t g) (aA M s g) 24 = μ2 at *
      have e3 : ∀ j, j ≠ g → jiv μ2 (M + 30 + s) j = jiv μ1 (M + 30 + s) j := e3
      have f2 := cpF_f3 hs (show g < 3 by omega) F1 e3
      obtain ⟨μ', v1, v2⟩ := ih (g + 1) μ2 (.int (N 24)) (by omega) (F.trans f2) (f2.qs hs q) (fun h hh => by
        by_cases e : h = g
        · subst e; exact e1
        · exact (cpF_side hs hg4 hh e F1 e3 (a3 h hh)).1) (fun h hh => by
        by_cases e : h = g
        · subst e; rw [e2]; exact o2
        · rw [(cpF_side hs hg4 (by omega) e F1 e3 (a3 h (by omega))).2]
          exact hv h (by omega))
      exact ⟨μ', by rw [st]; exact v1, v2⟩
  obtain ⟨μ', v1, v2⟩ := loop 3 0 μ (.retAddr 0) (by omega) F3s.refl hq hB (fun h hh => by omega)
  refine ⟨μ', ?_, v2⟩
  rw [jC_run (by decide)]
  show jR (d + 1) 190 0 [.ref M, .int (N t), .int (N s), .retAddr 0, .retAddr 0] [] μ = _
  rw [b190_0]
  exact v1
end LAY
