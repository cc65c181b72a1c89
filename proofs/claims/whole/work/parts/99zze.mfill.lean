/-! THE REFERENCE's CALLS: fill -/
section LAY
variable {μ μ' μ'' ν : jM} {M g h t s n w d D i j k x y a b c f q p m v : Nat} {A B C : GA} {σ : SG} {G : DG} {e : Ex}
theorem enc_ref : ∀ (e : Ex) (u : Nat), lv u e → ∀ x, x ∈ encE e → x.1 = N 3 → ∃ i, x.2 = N i ∧ rK i
  | .natCast v, u, hu, x, hx, h3 => by
    rw [List.mem_singleton.mp hx] at h3
    exact absurd (show N 0 = N 3 from h3) (by decide)
  | .intCast v, u, hu, x, hx, h3 => hu.elim
  | .var i, u, hu, x, hx, h3 => by
    rw [List.mem_singleton.mp hx]
    exact ⟨i, rfl, hu⟩
  | .num z, u, hu, x, hx, h3 => by
    obtain ⟨h0, h1, h2, h4⟩ := hu
    have hx : x ∈ [(N 2, N (z.toNat / 1000000)), (N 1, N 40), (N 3, N (z.toNat / 1000 % 1000)), (N 1, N 58), (N 3, N (z.toNat % 1000)), (N 1, N 41)] := hx
    simp only [List.mem_cons, List.not_mem_nil, or_false] at hx
    rcases hx with rfl | rfl | rfl | rfl | rfl | rfl
    · exact absurd (show N 2 = N 3 from h3) (by decide)
    · exact absurd (show N 1 = N 3 from h3) (by decide)
    · exact ⟨_, rfl, h2⟩
    · exact absurd (show N 1 = N 3 from h3) (by decide)
    · exact ⟨_, rfl, h4⟩
    · exact absurd (show N 1 = N 3 from h3) (by decide)
  | .neg e, u, hu, x, hx, h3 => by
    rcases List.mem_cons.mp (show x ∈ (N 1, N 45) :: encE e from hx) with rfl | hx
    · exact absurd (show N 1 = N 3 from h3) (by decide)
    · exact enc_ref e 0 hu x hx h3
  | .pow e _, u, hu, x, hx, h3 => by
    rcases List.mem_cons.mp (show x ∈ (N 1, N 40) :: (encE e ++ [(N 1, N 41)]) from hx) with rfl | hx
    · exact absurd (show N 1 = N 3 from h3) (by decide)
    · rcases List.mem_append.mp hx with hx | hx
      · exact enc_ref e 2 hu.2 x hx h3
      · rw [List.mem_singleton.mp hx] at h3
        exact absurd (show N 1 = N 3 from h3) (by decide)
  | .add a b, u, hu, x, hx, h3 => by
    rcases List.mem_append.mp (show x ∈ encE a ++ (N 1, N 43) :: encE b from hx) with hx | hx
    · exact enc_ref a 2 hu.2.1 x hx h3
    · rcases List.mem_cons.mp hx with rfl | hx
      · exact absurd (show N 1 = N 3 from h3) (by decide)
      · exact enc_ref b 1 hu.2.2 x hx h3
  | .sub a b, u, hu, x, hx, h3 => by
    rcases List.mem_append.mp (show x ∈ encE a ++ (N 1, N 45) :: encE b from hx) with hx | hx
    · exact enc_ref a 2 hu.2.1 x hx h3
    · rcases List.mem_cons.mp hx with rfl | hx
      · exact absurd (show N 1 = N 3 from h3) (by decide)
      · exact enc_ref b 1 hu.2.2 x hx h3
  | .mul a b, u, hu, x, hx, h3 => by
    rcases List.mem_append.mp (show x ∈ encE a ++ (N 1, N 42) :: encE b from hx) with hx | hx
    · exact enc_ref a 1 hu.2.1 x hx h3
    · rcases List.mem_cons.mp hx with rfl | hx
      · exact absurd (show N 1 = N 3 from h3) (by decide)
      · exact enc_ref b 0 hu.2.2 x hx h3
theorem r_shifted (h : MR μ M σ) (hj : JW μ) (hz : M + 424 ≤ jsz μ) (hg : g < 4) (hK : KK (σ.1.1 g)) (hn : n < 1000) (hf : MFS μ (M + 424) f e) : ∃ μ', jC (d + 1) 205 [.ref M, .int (N g), .ref f, .int (N n)] μ = some (some (.ref (jsz μ)), μ') ∧ Fa (fun _ => False) (fun _ _ => False) 1 78 μ μ' ∧ MFS μ' (M + 424) (jsz μ) (ecan (elow (σ.1.1 g) n e)) ∧ tks (ecan (elow (σ.1.1 g) n e)) = (tks e).map (lowT (σ.1.1 g) n) := by
  obtain ⟨f1, f2, f3, f4, f5, f6, f7, f8⟩ := id hf
  obtain ⟨x1, x2, x3, x4, x5, x6, x7⟩ := low_facts (n := n) hK f3 f4 f5 f6
  have lt := Nat.le_trans (len_tw (tks e)) f6
  have le := len_encE e
  obtain ⟨c1, c2, c3, F0, k0, l0⟩ := x_cloneI hj f1
  have I0 : jiv (jrowI (jnew μ 20 (jl μ f) (jl μ f)) (jsz μ) (jiv μ f)) (jsz μ) = jiv μ f := iv_rowIe
  generalize jrowI (jnew μ 20 (jl μ f) (jl μ f)) (jsz μ) (jiv μ f) = ν0 at *
  have j0 := F0.jw
  have al : jl μ f = 2 * (tks e).length := f7
  have loop : ∀ (m j : Nat) (ν : jM) (u6 u7 : Value), j + m = (tks e).length → Fx (fun b => b = jsz μ) (fun _ _ => False) ν0 ν → (∀ z, jiv ν (jsz μ) z = if z % 2 = 1 ∧ z / 2 < j then (shp (σ.1.1 g) n (jiv μ f (z - 1), jiv μ f z)).2 else jiv μ f z) → ∃ ν', jR (d + 1) 205 12 [.ref M, .int (N g), .ref f, .int (N n), .ref (jsz μ), .int (N (2 * j)), u6, u7] [] ν = some (some (.ref (jsz μ)), ν') ∧ Fx (fun b => b = jsz μ) (fun _ _ => False) ν0 ν' ∧ ∀ z, jiv ν' (jsz μ) z = if z % 2 = 1 ∧ z / 2 < (tks e).length then (shp (σ.1.1 g) n (jiv μ f (z - 1), jiv μ f z)).2 else jiv μ f z := by
    intro m
    induction m with
    | zero =>
      intro j ν u6 u7 hjm F hv
      have : j = (tks e).length := by omega
      subst this
      have kk : jk ν (jsz μ) = 20 := by rw [F.kk]; exact k0
      have ll : jl ν (jsz μ) = jl μ f := by rw [F.ll]; exact l0
      have a1 := alen_of (μ := ν) kk (by decide)
      rw [ll, al] at a1
      refine ⟨ν, ?_, F, hv⟩
      rw [b205_12 (h4 := ir_ref)]
      simp only [a1, Option.bind_some]
      rw [if_neg (by rw [N_lt (by omega) (by omega)]; omega)]
    | succ m ih =>
      intro j ν u6 u7 hjm F hv
      have kk : jk ν (jsz μ) = 20 := by rw [F.kk]; exact k0
      have ll : jl ν (jsz μ) = jl μ f := by rw [F.ll]; exact l0
      have FT := F0.trans (F.fa j0) (fun b hb g => by have g : b = jsz μ := g; omega) (fun _ _ _ g => g)
      have mr := h.outa hj hz FT (fun a k => k.elim) (fun a j k => k.elim)
      have jlt : j < (tks e).length := by omega
      have en : (encE e)[j]? = some (jiv μ f (2 * j), jiv μ f (2 * j + 1)) := by
        rw [← f8]
        unfold prs2
        rw [List.getElem?_map, List.getElem?_range (by omega)]
        rfl
      obtain ⟨ν2, v6, v7, s1, s2, s3⟩ := sh_step (d := d) (a := jsz μ) (j := j) (L := jl μ f) (u2 := .ref f) (u6 := u6) (u7 := u7) (n := n) mr hg hK hn kk ll (by omega) (by omega) (jiv μ f (2 * j), jiv μ f (2 * j + 1)) ⟨by rw [hv, if_neg (by omega)], by rw [hv, if_neg (by omega)]⟩ (fun q => enc_ref e 2 f3 _ (List.mem_of_getElem? en) q)
      obtain ⟨ν', y1, y2⟩ := ih (j + 1) ν2 v6 v7 (by omega) (F.trans s2) (fun z => by
        rw [s3]
        show (if z = 2 * j + 1 then _ else jiv ν (jsz μ) z) = _
        by_cases e1 : z = 2 * j + 1
        · rw [if_pos e1, if_pos (by omega), e1]
          rfl
        · rw [if_neg e1, hv]
          by_cases e2 : z % 2 = 1 ∧ z / 2 < j
          · rw [if_pos e2, if_pos (by omega)]
          · rw [if_neg e2, if_neg (by omega)])
      exact ⟨ν', by rw [s1]; exact y1, y2⟩
  obtain ⟨ν', y1, y2, y3⟩ := loop (tks e).length 0 ν0 (.retAddr 0) (.retAddr 0) (by omega) Fx.refl (fun z => by rw [if_neg (by omega), I0])
  have FT := F0.trans (y2.fa j0) (fun b hb g => by have g : b = jsz μ := g; omega) (fun _ _ _ g => g)
  refine ⟨ν', ?_, FT.mono (fun _ _ g => g) (fun _ _ _ g => g) (by omega) (by omega), ⟨by rw [y2.kk]; exact k0, hz, x1, x2, x3, x4, by rw [y2.ll, l0, al, x5], ?_⟩, x7⟩
  · rw [jC_run (by decide)]
    show jR (d + 1) 205 0 [.ref M, .int (N g), .ref f, .int (N n), .retAddr 0, .retAddr 0, .retAddr 0, .retAddr 0] [] μ = _
    rw [b205_0 (h2 := ir_ref)]
    simp only [c1, c2, c3, if_true, Option.bind_some]
    exact y1
  · rw [x6, ← f8]
    unfold prs2
    rw [y2.ll, l0, List.map_map]
    refine List.map_congr_left fun i hi => ?_
    have hi := List.mem_range.mp hi
    rw [y3, y3, if_neg (by omega), if_pos (by omega)]
    show (jiv μ f (2 * i), (shp (σ.1.1 g) n (jiv μ f (2 * i + 1 - 1), jiv μ f (2 * i + 1))).2) = shp (σ.1.1 g) n (jiv μ f (2 * i), jiv μ f (2 * i + 1))
    rw [show 2 * i + 1 - 1 = 2 * i by omega]
    unfold shp
    by_cases e3 : jiv μ f (2 * i) = N 3
    · rw [if_pos e3, e3]
    · rw [if_neg e3]
theorem kBel_ky {G' : DG} (e : ky1 G' = ky1 G) {kk : Int32} : kBel G' kk n = kBel G kk n := by
  unfold kBel
  rw [lfind_ky e]
  cases lfind kk G with
  | none => rfl
  | some p =>
    show keyO G' (p + n) = keyO G (p + n)
    unfold keyO
    rw [← ky1_get, ← ky1_get, e]
theorem lowT_ky {G' : DG} (e : ky1 G' = ky1 G) : lowT G' n = lowT G n := by
  funext t
  unfold lowT
  rw [kBel_ky e]
theorem ky1_fill {x : DC} {r c : Nat} : ∀ m, ky1 (pFill G x r c m) = ky1 G
  | 0 => rfl
  | m + 1 => by
    show ky1 (lset (pFill G x r c m) _ c _) = _
    rw [ky1_lset, ky1_fill m]
theorem cO_fill {x : DC} {r c : Nat} : ∀ m, cO [] (pFill G x r c m) (some r) c = cO [] G (some r) c
  | 0 => rfl
  | m + 1 => by
    have ih := cO_fill (x := x) (r := r) (c := c) m
    rw [← ih]
    show (((lset (pFill G x r c m) (some (r + (m + 1))) c _)[r]?).map fun w => rcol w c).getD _ = (((pFill G x r c m)[r]?).map fun w => rcol w c).getD _
    unfold lset
    rw [List.getElem?_modify]
    cases (pFill G x r c m)[r]? with
    | none => rfl
    | some w =>
      simp only [Option.map_eq_map, Option.map_some]
      rw [if_neg (by omega)]
theorem stg_twice {V W : DG} : stg (stg σ g V) g W = stg σ g W := by
  unfold stg
  show ((updf (updf σ.1.1 g V) g W, _), _) = _
  rw [updf_twice]
end LAY
