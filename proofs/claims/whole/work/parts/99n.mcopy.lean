/-! THE REFERENCE's CALLS: sheets copied -/
section LAY
variable {μ μ' ν : jM} {S S' : Nat → Prop} {T T' : Nat → Nat → Prop} {M g h t s n w d D i j k x y a b c : Nat} {A B C : GA} {σ : SG}
/-- what is copied, entry by entry -/
theorem lcpy_get {l r : List Int32} {p q m j : Nat} {v : Int32} (hp : p + m ≤ l.length) (hq : q + m ≤ r.length) (h : (lcpy l r p q m)[j]? = some v) : (q ≤ j ∧ j < q + m ∧ l[p + (j - q)]? = some v) ∨ (¬ (q ≤ j ∧ j < q + m) ∧ r[j]? = some v) := by
  unfold lcpy at h
  have l1 : (r.take q).length = q := by rw [List.length_take]; omega
  have l2 : ((l.drop p).take m).length = m := by rw [List.length_take, List.length_drop]; omega
  by_cases h1 : j < q
  · rw [List.getElem?_append_left (by omega), List.getElem?_take_of_lt h1] at h
    exact Or.inr ⟨by omega, h⟩
  · rw [List.getElem?_append_right (by omega), l1] at h
    by_cases h2 : j < q + m
    · rw [List.getElem?_append_left (by omega), List.getElem?_take_of_lt (by omega), List.getElem?_drop] at h
      exact Or.inl ⟨by omega, h2, h⟩
    · rw [List.getElem?_append_right (by omega), l2, List.getElem?_drop, show q + m + (j - q - m) = j by omega] at h
      exact Or.inr ⟨by omega, h⟩
theorem len_lcpy {l r : List Int32} {p q m : Nat} (hp : p + m ≤ l.length) (hq : q + m ≤ r.length) : (lcpy l r p q m).length = r.length := by
  unfold lcpy
  simp only [List.length_append, List.length_take, List.length_drop]
  omega
/-- a sheet copied through the space between -/
theorem sh_copy {o0 p q m : Nat} (h : MR μ M σ) (hs : s < 4) (ho : o0 < 4) (hp : p + m ≤ (σ.2.2.2.2.2 s).2.length) (hq : q + m ≤ (σ.2.2.2.2.2 o0).2.length) : ∃ m1 m2, jcp μ (.ref (M + 419 + s)) (N p) (.ref (M + 423)) (N 0) (N m) = some m1 ∧ jcp m1 (.ref (M + 423)) (N 0) (.ref (M + 419 + o0)) (N q) (N m) = some m2 ∧ (jk m1 = jk μ ∧ jrv m1 = jrv μ ∧ jaR m1 = jaR μ) ∧ FR M μ m2 ∧ MR m2 M (ssh σ o0 ((σ.2.2.2.2.2 o0).1, lcpy (σ.2.2.2.2.2 s).2 (σ.2.2.2.2.2 o0).2 p q m)) := by
  have hq0 := h.1
  have hMs := h.2.2.2.2.2.2.2.2.2
  obtain ⟨v1, v2, v3, v4⟩ := hMs s hs
  obtain ⟨w1, w2, w3, w4⟩ := hMs o0 ho
  have ks := (hq0.gk hs).2.2.2.2.2
  have ko := (hq0.gk ho).2.2.2.2.2
  have k23 : jk μ (M + 423) = 20 ∧ jl μ (M + 423) = 40 := hq0.kd (o := 423) (by decide) rfl
  have c1 := cp_N (μ := μ) (a := M + 419 + s) (b := M + 423) (sp := p) (dp := 0) (n0 := m) ks.1 k23.1 (by rw [ks.2]; omega) (by rw [k23.2]; omega) (by rw [ks.2]; decide) (by rw [k23.2]; decide)
  have c2 := cp_N (μ := jrowI μ (M + 423) (va_cpy (jiv μ (M + 419 + s)) (jiv μ (M + 423)) p 0 m)) (a := M + 423) (b := M + 419 + o0) (sp := 0) (dp := q) (n0 := m) k23.1 ko.1 (by show 0 + m ≤ jl μ (M + 423); rw [k23.2]; omega) (by show q + m ≤ jl μ (M + 419 + o0); rw [ko.2]; omega) (by show jl μ (M + 423) < _; rw [k23.2]; decide) (by show jl μ (M + 419 + o0) < _; rw [ko.2]; decide)
  rw [iv_rowIe, iv_rowIn (show ¬ M + 419 + o0 = M + 423 by omega)] at c2
  have F : Fx (fun a => a = M + 423 ∨ a = M + 419 + o0) (fun _ _ => False) μ (jrowI (jrowI μ (M + 423) (va_cpy (jiv μ (M + 419 + s)) (jiv μ (M + 423)) p 0 m)) (M + 419 + o0) (va_cpy (va_cpy (jiv μ (M + 419 + s)) (jiv μ (M + 423)) p 0 m) (jiv μ (M + 419 + o0)) 0 q m)) := Fx.rowI (Fx.rowI Fx.refl (Or.inl rfl)) (Or.inr rfl)
  have hf : MRs (jrowI (jrowI μ (M + 423) (va_cpy (jiv μ (M + 419 + s)) (jiv μ (M + 423)) p 0 m)) (M + 419 + o0) (va_cpy (va_cpy (jiv μ (M + 419 + s)) (jiv μ (M + 423)) p 0 m) (jiv μ (M + 419 + o0)) 0 q m)) M (updf σ.2.2.2.2.2 o0 ((σ.2.2.2.2.2 o0).1, lcpy (σ.2.2.2.2.2 s).2 (σ.2.2.2.2.2 o0).2 p q m)) := by
    intro x hx
    obtain ⟨x1, x2, x3, x4⟩ := hMs x hx
    unfold updf
    rw [F.iv (a := M + 416) (by omega), F.iv (a := M + 417) (by omega)]
    by_cases ex : x = o0
    · subst ex
      rw [if_pos rfl]
      refine ⟨x1, ?_, ?_, fun j v hj => ?_⟩
      · show (lcpy _ _ _ _ _).length ≤ 40
        rw [len_lcpy hp hq]; exact x2
      · show _ = N (lcpy _ _ _ _ _).length
        rw [len_lcpy hp hq]; exact x3
      · rw [iv_rowIe]
        rcases lcpy_get hp hq hj with ⟨a1, a2, a3⟩ | ⟨a1, a2⟩
        · unfold va_cpy
          rw [if_pos ⟨a1, a2⟩, if_pos ⟨by omega, by omega⟩, show p + (0 + (j - q) - 0) = p + (j - q) by omega]
          exact v4 _ _ a3
        · show va_cpy (va_cpy (jiv μ (M + 419 + s)) (jiv μ (M + 423)) p 0 m) (jiv μ (M + 419 + x)) 0 q m j = v
          unfold va_cpy
          rw [if_neg a1]
          exact x4 _ _ a2
    · rw [if_neg ex, F.iv (a := M + 419 + x) (by omega)]
      exact ⟨x1, x2, x3, x4⟩
  obtain ⟨z1, z2⟩ := h.sheets F (fun a k => by omega) hf
  exact ⟨_, _, c1, c2, ⟨rfl, rfl, rfl⟩, z1, z2⟩
end LAY
