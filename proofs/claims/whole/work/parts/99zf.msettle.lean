/-! THE REFERENCE's CALLS: settle -/
section LAY
variable {μ μ' μ'' ν : jM} {S S' : Nat → Prop} {T T' : Nat → Nat → Prop} {M g h t s n w d D i j k x y a b c f q : Nat} {A B C : GA} {σ : SG} {G : Nat → DG} {o o' ob ox ot : Option Nat} {R : Nat → Nat × Nat} {l l' : List CL} {V : Nat → DC} {K : List Int32} {W Wf : DG}
theorem rowsM.mod {l : List (RW (Option Nat))} {F : RW (Option Nat) → RW (Option Nat)} (h : rowsM μ D l) (hf : ∀ w, (MCO μ D w.2.1 ∧ MCO μ D w.2.2.1 ∧ MCO μ D w.2.2.2) → (MCO μ D (F w).2.1 ∧ MCO μ D (F w).2.2.1 ∧ MCO μ D (F w).2.2.2)) : rowsM μ D (l.modify i F) := by
  intro w hw
  obtain ⟨j, hj⟩ := List.mem_iff_getElem?.mp hw
  rw [List.getElem?_modify] at hj
  cases e : l[j]? with
  | none => rw [e] at hj; cases hj
  | some w0 =>
    rw [e] at hj
    have h0 := h w0 (List.mem_of_getElem? e)
    by_cases ej : i = j
    · simp only [if_pos ej, Option.map_eq_map, Option.map_some, Option.some.injEq] at hj
      subst hj
      exact hf w0 h0
    · simp only [if_neg ej, Option.map_eq_map, Option.map_some, Option.some.injEq] at hj
      subst hj
      exact h0
/-- a content put into the fourth grid, as it is read -/
theorem MR.putc {x : RC (Option Nat)} {v : Int32 × Int32 × List Tk} (h : MR μ M σ) (ct : CT μ M x v) (hc : c < 3) : FR M μ (putC μ (mA M 3) (i * 3 + c) x.1 x.2.1 x.2.2.1) ∧ MR (putC μ (mA M 3) (i * 3 + c) x.1 x.2.1 x.2.2.1) M (stg σ 3 (lset (σ.1.1 3) (some i) c fun w => (v.1, v.2.1, v.2.2, w.2.2.2))) := by
  obtain ⟨H1, H2, H3, H4, H5⟩ := h.gq (g := 3) (by decide)
  have F : FM1 M 3 μ (putC μ (mA M 3) (i * 3 + c) x.1 x.2.1 x.2.2.1) := (putC_fr (h := 3)).f1 (by decide)
  have e3 := rG_putC (μ := μ) (A := mA M 3) (i := i) (c := c) (k := x.1) (n := x.2.1) (f := x.2.2.1) (mA_ok (by decide)) hc
  have h2 := h.grid (by decide) F (putC_gq H1 (mco_put ct.1).2.2) e3 (H3.mod fun w hw => by
    obtain ⟨k1, k2, k3⟩ := hw
    have m1 : MCO μ (M + 424) (x.1, x.2.1, x.2.2.1, (rcol w c).2.2.2) := ct.1
    rcases (show c = 0 ∨ c = 1 ∨ c = 2 by omega) with rfl | rfl | rfl
    · exact ⟨m1, k2, k3⟩
    · exact ⟨k1, m1, k3⟩
    · exact ⟨k1, k2, m1⟩)
  refine ⟨F.fr (by decide), ?_⟩
  rw [map_modify (f' := fun w => rset w c (v.1, v.2.1, v.2.2, (rcol w c).2.2.2)) (fun w => by
    rw [← ct.2]
    rcases (show c = 0 ∨ c = 1 ∨ c = 2 by omega) with rfl | rfl | rfl <;> rfl), ← H2] at h2
  exact h2
/-- a note put into the fourth grid -/
theorem MR.putt {v : Int32} (h : MR μ M σ) (hc : c < 3) : FR M μ (putT μ (mA M 3) (i * 3 + c) v) ∧ MR (putT μ (mA M 3) (i * 3 + c) v) M (stg σ 3 (lset (σ.1.1 3) (some i) c fun w => (w.1, w.2.1, w.2.2.1, v))) := by
  obtain ⟨H1, H2, H3, H4, H5⟩ := h.gq (g := 3) (by decide)
  have F : FM1 M 3 μ (putT μ (mA M 3) (i * 3 + c) v) := putT_f1 (by decide)
  have e3 := rG_putT (μ := μ) (A := mA M 3) (i := i) (c := c) (t := v) (mA_ok (by decide)) hc
  have h2 := h.grid (by decide) F (gq_putT H1) e3 (H3.mod fun w hw => by
    obtain ⟨k1, k2, k3⟩ := hw
    rcases (show c = 0 ∨ c = 1 ∨ c = 2 by omega) with rfl | rfl | rfl
    · exact ⟨k1, k2, k3⟩
    · exact ⟨k1, k2, k3⟩
    · exact ⟨k1, k2, k3⟩)
  refine ⟨F.fr (by decide), ?_⟩
  rw [map_modify (f' := fun w => rset w c ((rcol w c).1, (rcol w c).2.1, (rcol w c).2.2.1, v)) (fun w => by
    rcases (show c = 0 ∨ c = 1 ∨ c = 2 by omega) with rfl | rfl | rfl <;> rfl), ← H2] at h2
  exact h2
/-- a row of the fourth grid taken away -/
theorem MR.close (h : MR μ M σ) (hi : i < (σ.1.1 3).length) : ∃ μ', jC (d + 2) 200 [.ref M, .int 3, .int (N i)] μ = some (none, μ') ∧ FR M μ μ' ∧ MR μ' M (stg σ 3 ((σ.1.1 3).eraseIdx i)) := by
  obtain ⟨H1, H2, H3, H4, H5⟩ := h.gq (g := 3) (by decide)
  obtain ⟨μ2, c2, F2, H6, e2⟩ := r_closes (d := d) h.1 H1 (show i < vN μ (mA M 3) by omega)
  have h2 := h.grid (by decide) F2 H6 e2 (fun w hw => H3 w (List.mem_of_mem_eraseIdx hw))
  rw [map_eraseIdx, ← H2] at h2
  exact ⟨μ2, c2, F2.fr (by decide), h2⟩
/-- a row of the fourth grid as in another -/
theorem MR.copyr {kk : Int32} (h : MR μ M σ) (hg : g < 3) (hi : lfind kk (σ.1.1 3) = some i) (hq : lfind kk (σ.1.1 g) = some q) : ∃ μ', jC (d + 1) 196 [.ref M, .int (N g), .int (N q), .int 3, .int (N i)] μ = some (none, μ') ∧ FR M μ μ' ∧ MR μ' M (stg σ 3 (lrow (σ.1.1 3) i (cO [] (σ.1.1 g) (some q) 0) (cO [] (σ.1.1 g) (some q) 1) (cO [] (σ.1.1 g) (some q) 2))) := by
  obtain ⟨H1, H2, H3, H4, H5⟩ := h.gq (g := 3) (by decide)
  obtain ⟨J1, J2, J3, J4, J5⟩ := h.gq (g := g) (by omega)
  have hil := lfind_lt hi
  have hql := lfind_lt hq
  have F : FMg M 3 μ (cpR μ (mA M g) q (mA M 3) i) := cpR_fr
  have rl := RL_cpR (μ := μ) (i := q) (k := i) (n := vN μ (mA M 3)) (mA_ok (M := M) (show 3 < 4 by decide)) (mA_ap (M := M) (g := g) (h := 3) (by omega) (by decide)) (mA_key (M := M) (g := g) (h := 3) (by omega) (by decide)) (by omega)
  have iv : ∀ a, ¬ SMg M 3 a → jiv (cpR μ (mA M g) q (mA M 3) i) a = jiv μ a := fun a k => F.iv k
  have ev : vN (cpR μ (mA M g) q (mA M 3) i) (mA M 3) = vN μ (mA M 3) := by
    rw [vN_m, vN_m, iv (M + 1) (by unfold SMg; omega)]
  have e3 : rG (cpR μ (mA M g) q (mA M 3) i) (mA M 3) = (rG μ (mA M 3)).set i (rowAt μ (mA M g) q) := by
    rw [rG_m, ev, rl]; rfl
  have rq : (rG μ (mA M g))[q]? = some (rowAt μ (mA M g) q) := RWN_get (n := vN μ (mA M g)) (by omega)
  have gq : GQ (cpR μ (mA M g) q (mA M 3) i) M 3 := by
    refine ⟨by decide, ?_, by rw [ev]; exact H1.2.2.1, cpR_ref J1.2.2.2 H1.2.2.2⟩
    rw [ev, iv (M + 1) (by unfold SMg; omega)]
    exact H1.2.1
  have h2 := h.grid (by decide) (F.f1 (by decide)) gq e3 (fun w hw => by
    rcases List.mem_or_eq_of_mem_set hw with z | z
    · exact H3 w z
    · subst z
      exact J3 _ (List.mem_of_getElem? rq))
  refine ⟨_, r_copyRow h.1 (by omega) (by decide) (by omega) (by omega) J1.2.2.2 H1.2.2.2, (F.f1 (by decide)).fr (by decide), ?_⟩
  have el : ((rG μ (mA M 3)).set i (rowAt μ (mA M g) q)).map (rwm (mF μ)) = lrow (σ.1.1 3) i (cO [] (σ.1.1 g) (some q) 0) (cO [] (σ.1.1 g) (some q) 1) (cO [] (σ.1.1 g) (some q) 2) := by
    have c0 : ∀ c, c < 3 → cO [] (σ.1.1 g) (some q) c = rcm (mF μ) (rc μ (mA M g) (q * 3 + c)) := fun c hc => (h.gg.cell hg hc hql).2.1
    obtain ⟨w1, h1, h2⟩ := lfind_key hi
    obtain ⟨w2, h3, h4⟩ := lfind_key hq
    rw [List.map_set, ← H2, c0 0 (by decide), c0 1 (by decide), c0 2 (by decide)]
    have kq : jiv μ (M + 3 + g) q = kk := by
      rw [J2, List.getElem?_map, rq] at h3
      have h3 : some (rwm (mF μ) (rowAt μ (mA M g) q)) = some w2 := h3
      cases h3
      exact h4
    apply List.ext_getElem?
    intro j
    unfold lrow
    rw [List.getElem?_set, List.getElem?_modify]
    by_cases ej : i = j
    · subst ej
      rw [if_pos rfl, if_pos hil, h1]
      simp only [if_true, Option.map_eq_map, Option.map_some]
      rw [h2, ← kq]
      rfl
    · rw [if_neg ej]
      cases (σ.1.1 3)[j]? with
      | none => rfl
      | some w => simp only [if_neg ej, Option.map_eq_map, Option.map_some]
  rw [el] at h2
  exact h2
end LAY
