/-! THE REFERENCE's CALLS: sheets copied -/
section LAY
variable {μ μ' ν : jM} {S S' : Nat → Prop} {T T' : Nat → Nat → Prop} {M g h t s n w d D i j k x y a b c : Nat} {A B C : GA} {σ : SG}
/-- what is copied, entry by entry -/
theorem lcpy_get {l r : List Int32} {p q m j : Nat} {v : Int32} (hp : p + m ≤ l.length) (hq : q + m ≤ r.length) (h : (lcpy l r p q m)[j]? = some v) : (q ≤ j ∧ j < q + m ∧ l[p + (j - q)]? = some v) ∨ (¬ (q ≤ j ∧ j < q + m) ∧ r[j]? = some v) := by
  unfold lcpy at h
  have l1 : (r.take q).length = q := by rw [List.length_take]; omega
  have l2 : ((l.drop p).take m).length = m := by rw [List.length_take, List.length_drop]; omega
  by_cases h1 : j < q
  · rw [List.getElem?_append_left (by omega), List.getElem?_take_of_lt h1] at h
    exact Or.inr ⟨by omega, h⟩
  · rw [List.getElem?_append_right (by omega), l1] at h
    by_cases h2 : j < q + m
    · rw [List.getElem?_append_left (by omega), List.getElem?_take_of_lt (by omega), List.getElem?_drop] at h
      exact Or.inl ⟨by omega, h2, h⟩
    · rw [List.getElem?_append_right (by omega), l2, List.getElem?_drop, show q + m + (j - q - m) = j by omega] at h
      exact Or.inr ⟨by omega, h⟩
theorem len_lcpy {l r : List Int32} {p q m : Nat} (hp : p + m ≤ l.length) (hq : q + m ≤ r.length) : (lcpy l r p q m).length = r.length := by
  unfold lcpy
  simp only [List.length_append, List.length_take, List.length_drop]
  omega
/-- a sheet copied through the space between -/
theorem sh_copy {o0 p q m : Nat} (h : MR μ M σ) (hs : s < 4) (ho : o0 < 4) (hp : p + m ≤ (σ.2.2.2.2.2 s).2.length) (hq : q + m ≤ (σ.2.2.2.2.2 o0).2.length) : ∃ m1 m2, jcp μ (.ref (M + 419 + s)) (N p) (.ref (M + 423)) (N 0) (N m) = some m1 ∧ jcp m1 (.ref (M + 423)) (N 0) (.ref (M + 419 + o0)) (N q) (N m) = some m2 ∧ (jk m1 = jk μ ∧ jrv m1 = jrv μ ∧ jaR m1 = jaR μ) ∧ FR M μ m2 ∧ MR m2 M (ssh σ o0 ((σ.2.2.2.2.2 o0).1, lcpy (σ.2.2.2.2.2 s).2 (σ.2.2.2.2.2 o0).2 p q m)) := by
  have hq0 := h.1
  have hMs := h.2.2.2.2.2.2.2.2.2
  obtain ⟨v1, v2, v3, v4⟩ := hMs s hs
  obtain ⟨w1, w2, w3, w4⟩ := hMs o0 ho
  have ks := (hq0.gk hs).2.2.2.2.2
  have ko := (hq0.gk ho).2.2.2.2.2
  have k23 : jk μ (M + 423) = 20 ∧ jl μ (M + 423) = 40 := hq0.kd (o := 423) (by decide) rfl
  have c1 := cp_N (μ := μ) (a := M + 419 + s) (b := M + 423) (sp := p) (dp := 0) (n0 := m) ks.1 k23.1 (by rw [ks.2]; omega) (by rw [k23.2]; omega) (by rw [ks.2]; decide) (by rw [k23.2]; decide)
  have c2 := cp_N (μ := jrowI μ (M + 423) (va_cpy (jiv μ (M + 419 + s)) (jiv μ (M + 423)) p 0 m)) (a := M + 423) (b := M + 419 + o0) (sp := 0) (dp := q) (n0 := m) k23.1 ko.1 (by show 0 + m ≤ jl μ (M + 423); rw [k23.2]; omega) (by show q + m ≤ jl μ (M + 419 + o0); rw [ko.2]; omega) (by show jl μ (M + 423) < _; rw [k23.2]; decide) (by show jl μ (M + 419 + o0) < _; rw [ko.2]; decide)
  rw [iv_rowIe, iv_rowIn (show ¬ M + 419 + o0 = M + 423 by omega)] at c2
  have F : Fx (fun a => a = M + 423 ∨ a = M + 419 + o0) (fun _ _ => False) μ (jrowI (jrowI μ (M + 423) (va_cpy (jiv μ (M + 419 + s)) (jiv μ (M + 423)) p 0 m)) (M + 419 + o0) (va_cpy (va_cpy (jiv μ (M + 419 + s)) (jiv μ (M + 423)) p 0 m) (jiv μ (M + 419 + o0)) 0 q m)) := Fx.rowI (Fx.rowI Fx.refl (Or.inl rfl)) (Or.inr rfl)
  have hf : MRs (jrowI (jrowI μ (M + 423) (va_cpy (jiv μ (M + 419 + s)) (jiv μ (M + 423)) p 0 m)) (M + 419 + o0) (va_cpy (va_cpy (jiv μ (M + 419 + s)) (jiv μ (M + 423)) p 0 m) (jiv μ (M + 419 + o0)) 0 q m)) M (updf σ.2.2.2.2.2 o0 ((σ.2.2.2.2.2 o0).1, lcpy (σ.2.2.2.2.2 s).2 (σ.2.2.2.2.2 o0).2 p q m)) := by
    intro x hx
    obtain ⟨x1, x2, x3, x4⟩ := hMs x hx
    unfold updf
    rw [F.iv (a := M + 416) (by omega), F.iv (a := M + 417) (by omega)]
    by_cases ex : x = o0
    · subst ex
      rw [if_pos rfl]
      refine ⟨x1, ?_, ?_, fun j v hj => ?_⟩
      · show (lcpy _ _ _ _ _).length ≤ 40
        rw [len_lcpy hp hq]; exact x2
      · show _ = N (lcpy _ _ _ _ _).length
        rw [len_lcpy hp hq]; exact x3
      · rw [iv_rowIe]
        rcases lcpy_get hp hq hj with ⟨a1, a2, a3⟩ | ⟨a1, a2⟩
        · unfold va_cpy
          rw [if_pos ⟨a1, a2⟩, if_pos ⟨by omega, by omega⟩, show p + (0 + (j - q) - 0) = p + (j - q) by omega]
          exact v4 _ _ a3
        · show va_cpy (va_cpy (jiv μ (M + 419 + s)) (jiv μ (M + 423)) p 0 m) (jiv μ (M + 419 + x)) 0 q m j = v
          unfold va_cpy
          rw [if_neg a1]
          exact x4 _ _ a2
    · rw [if_neg ex, F.iv (a := M + 419 + x) (by omega)]
      exact ⟨x1, x2, x3, x4⟩
  obtain ⟨z1, z2⟩ := h.sheets F (fun a k => by omega) hf
  exact ⟨_, _, c1, c2, ⟨rfl, rfl, rfl⟩, z1, z2⟩
theorem p_copy (h : MR μ M σ) (hw : ∀ x, x < 4 → (σ.2.2.2.2.2 x).1 = NEG ∨ (σ.2.2.2.2.2 x).1 = N 0 ∨ (σ.2.2.2.2.2 x).1 = N 1) (s i o j n : Int32) : ROP M (jC (d + 2) 264 [.ref M, .int s, .int i, .int o, .int j, .int n] μ) μ (o_copy σ s i o j n) := by
  obtain ⟨hq, hA, hg, hr, hu, hi, ht, hc, hm, hs⟩ := id h
  have k13 := hq.k13
  have bad : jR (d + 2) 264 14 [.ref M, .int s, .int i, .int o, .int j, .int n] [] μ = some (some (.int aBAD), μ) := b264_14 ..
  have gone : jR (d + 2) 264 35 [.ref M, .int s, .int i, .int o, .int j, .int n] [] μ = some (some (.int aGONE), μ) := b264_35 ..
  have out : jR (d + 2) 264 97 [.ref M, .int s, .int i, .int o, .int j, .int n] [] μ = some (some (.int aOUT), μ) := b264_97 ..
  have st : jC (d + 2) 264 [.ref M, .int s, .int i, .int o, .int j, .int n] μ = jR (d + 2) 264 4 [.ref M, .int s, .int i, .int o, .int j, .int n] [.int (okI (ix 4 s))] μ := by
    rw [jC_run (by decide)]
    show jR (d + 2) 264 0 [.ref M, .int s, .int i, .int o, .int j, .int n] [] μ = _
    rw [b264_0, r_sort]
    rfl
  have ng : ∀ v : Int32, (v = NEG ∨ v = N 0 ∨ v = N 1) → (v < 0 ↔ v = NEG) := by
    intro v hv
    rcases hv with e | e | e <;> rw [e] <;> decide
  rw [st, b264_4]
  unfold o_copy
  cases es : ix 4 s with
  | none =>
    rw [if_pos (by rw [okI_0])]
    exact ⟨μ, bad, FR.refl, h⟩
  | some s0 =>
    obtain ⟨rfl, hs4⟩ := ix_some (by decide) es
    rw [if_neg (by rw [okI_0]; simp), r_sort]
    show ROP M (jR (d + 2) 264 11 [.ref M, .int (N s0), .int i, .int o, .int j, .int n] [.int (okI (ix 4 o))] μ) μ _
    rw [b264_11]
    cases eo : ix 4 o with
    | none =>
      rw [if_pos (by rw [okI_0])]
      exact ⟨μ, bad, FR.refl, h⟩
    | some o0 =>
      obtain ⟨rfl, ho4⟩ := ix_some (by decide) eo
      rw [if_neg (by rw [okI_0]; simp)]
      obtain ⟨q52, q53, q54, q55, g1, g2, g3, k19, l19⟩ := hq.sh hs4
      obtain ⟨-, -, -, -, f1, f2, f3, kk, ll⟩ := hq.sh ho4
      obtain ⟨v1, v2, v3, v4⟩ := hs s0 hs4
      obtain ⟨w1, w2, w3, w4⟩ := hs o0 ho4
      rw [v1] at g1
      rw [v3] at g2
      rw [w1] at f1
      rw [w3] at f2
      have ns := ng _ (hw s0 hs4)
      have no := ng _ (hw o0 ho4)
      simp only [gI13, gR13, pI13, pR13, rv13, k13, q52, q53, if_true, Option.bind_some, rf_some, g1, g2, f1, f2]
      show ROP M _ μ (if (σ.2.2.2.2.2 s0).1 = NEG ∨ (σ.2.2.2.2.2 o0).1 = NEG then (aGONE, σ) else if (σ.2.2.2.2.2 s0).1 ≠ (σ.2.2.2.2.2 o0).1 then (aSORT, σ) else match hix (σ.2.2.2.2.2 s0).2.length i n, hix (σ.2.2.2.2.2 o0).2.length j n with
        | some q, some t => (N q.2, ssh σ o0 ((σ.2.2.2.2.2 o0).1, lcpy (σ.2.2.2.2.2 s0).2 (σ.2.2.2.2.2 o0).2 q.1 t.1 q.2))
        | _, _ => (aOUT, σ))
      by_cases a1 : (σ.2.2.2.2.2 s0).1 = NEG
      · rw [if_pos (Or.inl a1), if_pos (ns.mpr a1)]
        exact ⟨μ, gone, FR.refl, h⟩
      · rw [if_neg (fun q => a1 (ns.mp q))]
        by_cases a2 : (σ.2.2.2.2.2 o0).1 = NEG
        · rw [if_pos (Or.inr a2), if_pos (no.mpr a2)]
          exact ⟨μ, gone, FR.refl, h⟩
        · rw [if_neg (fun q => a2 (no.mp q)), if_neg (show ¬ ((σ.2.2.2.2.2 s0).1 = NEG ∨ (σ.2.2.2.2.2 o0).1 = NEG) from fun q => q.elim a1 a2)]
          by_cases a3 : (σ.2.2.2.2.2 s0).1 = (σ.2.2.2.2.2 o0).1
          · rw [if_pos a3, if_neg (show ¬ (σ.2.2.2.2.2 s0).1 ≠ (σ.2.2.2.2.2 o0).1 from fun q => q a3)]
            have HS := @HI_hix _ v2 i n
            have HO := @HI_hix _ w2 j n
            have badS : ∀ z : Int32, ¬ HI (σ.2.2.2.2.2 s0).2.length i n → ROP M (some (some (.int aOUT), μ)) μ (match hix (σ.2.2.2.2.2 s0).2.length i n, hix (σ.2.2.2.2.2 o0).2.length j n with
                | some q, some t => (N q.2, ssh σ o0 ((σ.2.2.2.2.2 o0).1, lcpy (σ.2.2.2.2.2 s0).2 (σ.2.2.2.2.2 o0).2 q.1 t.1 q.2))
                | _, _ => (aOUT, σ)) := fun _ hn => by
              cases e1 : hix (σ.2.2.2.2.2 s0).2.length i n with
              | none => exact ⟨μ, rfl, FR.refl, h⟩
              | some q => exact absurd (HS.mpr ⟨q, e1⟩) hn
            have badO : ∀ z : Int32, ¬ HI (σ.2.2.2.2.2 o0).2.length j n → ROP M (some (some (.int aOUT), μ)) μ (match hix (σ.2.2.2.2.2 s0).2.length i n, hix (σ.2.2.2.2.2 o0).2.length j n with
                | some q, some t => (N q.2, ssh σ o0 ((σ.2.2.2.2.2 o0).1, lcpy (σ.2.2.2.2.2 s0).2 (σ.2.2.2.2.2 o0).2 q.1 t.1 q.2))
                | _, _ => (aOUT, σ)) := fun _ hn => by
              cases e1 : hix (σ.2.2.2.2.2 o0).2.length j n with
              | none => cases hix (σ.2.2.2.2.2 s0).2.length i n <;> exact ⟨μ, rfl, FR.refl, h⟩
              | some q => exact absurd (HO.mpr ⟨q, e1⟩) hn
            by_cases c1 : n < N 0
            · rw [if_pos (show n < (0 : Int32) from c1), out]
              exact badS 0 (fun q => q.2.1 c1)
            · rw [if_neg (show ¬ n < (0 : Int32) from c1)]
              by_cases c2 : i < N 0
              · rw [if_pos (show i < (0 : Int32) from c2), out]
                exact badS 0 (fun q => q.1 c2)
              · rw [if_neg (show ¬ i < (0 : Int32) from c2)]
                by_cases c3 : j < N 0
                · rw [if_pos (show j < (0 : Int32) from c3), out]
                  exact badO 0 (fun q => q.1 c3)
                · rw [if_neg (show ¬ j < (0 : Int32) from c3)]
                  by_cases c4 : N (σ.2.2.2.2.2 s0).2.length - n < i
                  · rw [if_pos c4, out]
                    exact badS 0 (fun q => q.2.2 c4)
                  · rw [if_neg c4]
                    by_cases c5 : N (σ.2.2.2.2.2 o0).2.length - n < j
                    · rw [if_pos c5, out]
                      exact badO 0 (fun q => q.2.2 c5)
                    · rw [if_neg c5]
                      obtain ⟨q, e1⟩ := HS.mp ⟨c2, c1, c4⟩
                      obtain ⟨t, e2⟩ := HO.mp ⟨c3, c1, c5⟩
                      rw [e1, e2]
                      obtain ⟨rfl, rfl, hp⟩ := hix_some v2 e1
                      obtain ⟨rfl, hnt, ht⟩ := hix_some w2 e2
                      have hnt : q.2 = t.2 := by rwa [N_inj (by omega) (by omega)] at hnt
                      obtain ⟨m1, m2, d1, d2, ⟨d3, d4, d5⟩, z1, z2⟩ := sh_copy h hs4 ho4 (p := q.1) (q := t.1) (m := q.2) hp (by omega)
                      simp only [gI13, gR13, pI13, pR13, rv13, N_lit, k13, d3, d4, d5, q54, q55, if_true, Option.bind_some, rf_some, g3, f3, d1, d2]
                      exact ⟨m2, rfl, z1, z2⟩
          · rw [if_neg a3, if_pos (show (σ.2.2.2.2.2 s0).1 ≠ (σ.2.2.2.2.2 o0).1 from a3)]
            exact ⟨μ, rfl, FR.refl, h⟩
end LAY
