/-! THE REFERENCE: a formula shifted -/
section LAY
variable {μ μ' μ'' ν : jM} {M g h t s n w d D i j k x y a b c f q p m v : Nat} {A B C : GA} {σ : SG} {G : DG} {e : Ex}
theorem x_cloneI (hj : JW μ) (hk : jk μ a = 20) : jclk μ 20 (.ref a) = true ∧ jcl μ (.ref a) = some (.ref (jsz μ), jrowI (jnew μ 20 (jl μ a) (jl μ a)) (jsz μ) (jiv μ a)) ∧ jck (jrowI (jnew μ 20 (jl μ a) (jl μ a)) (jsz μ) (jiv μ a)) 20 (.ref (jsz μ)) = true ∧ Fa (fun _ => False) (fun _ _ => False) 1 (jl μ a) μ (jrowI (jnew μ 20 (jl μ a) (jl μ a)) (jsz μ) (jiv μ a)) ∧ jk (jrowI (jnew μ 20 (jl μ a) (jl μ a)) (jsz μ) (jiv μ a)) (jsz μ) = 20 ∧ jl (jrowI (jnew μ 20 (jl μ a) (jl μ a)) (jsz μ) (jiv μ a)) (jsz μ) = jl μ a := by
  have c1 : jclk μ 20 (.ref a) = true := by
    unfold jclk
    show ((jty μ a).map fun q => (a, q.1, q.2)).any _ = true
    rw [jt_of hk (by decide)]; rfl
  have c2 : jck (jrowI (jnew μ 20 (jl μ a) (jl μ a)) (jsz μ) (jiv μ a)) 20 (.ref (jsz μ)) = true := by
    unfold jck
    show ((jty (jrowI (jnew μ 20 (jl μ a) (jl μ a)) (jsz μ) (jiv μ a)) (jsz μ)).map fun q => (jsz μ, q.1, q.2)).any _ = true
    rw [ty_rowI, jt_of (nk_e (k := 20)) (by decide)]; rfl
  have F0 : Fa (fun _ => False) (fun _ _ => False) 1 (jl μ a) μ (jnew μ 20 (jl μ a) (jl μ a)) := Fa.new hj
  have F1 : Fx (fun b => b = jsz μ) (fun _ _ => False) (jnew μ 20 (jl μ a) (jl μ a)) (jrowI (jnew μ 20 (jl μ a) (jl μ a)) (jsz μ) (jiv μ a)) := by refine Fx.rowI Fx.refl ?_; show jsz μ = jsz μ; rfl
  have F2 := F0.trans (F1.fa F0.jw) (fun b hb g => by have g : b = jsz μ := g; omega) (fun _ _ _ g => g)
  refine ⟨c1, by rw [cl_eq, if_pos (Or.inl hk), hk], c2, F2.mono (fun _ _ g => g) (fun _ _ _ g => g) (by omega) (by omega), by rw [jk_rowI]; exact nk_e, by rw [jl_rowI]; exact nl_e⟩
theorem MR.place (h : MR μ M σ) (hg : g < 4) (kk : Int32) : jC d 194 [.ref M, .int (N g), .int kk] μ = some (some (.int (pl (lfind kk (σ.1.1 g)))), μ) := by
  rw [r_placeOf h.1 (h.gq hg).1 kk, ← (h.2.2.1 g hg).2, lfind_dM]
theorem r_refOf (hk : 1 ≤ k) (hk2 : k < 100) (hc : c < 4) : jC d 188 [.int (N k), .int (N c), .int 0] μ = some (some (.int (N (8 * k + 2 * c))), μ) := by
  rw [jC_run (by decide)]
  show jR d 188 0 [.int (N k), .int (N c), .int 0] [] μ = _
  rw [b188_0, if_neg (show ¬ N k = 0 by show ¬ N k = N 0; rw [N_inj (by omega) (by decide)]; omega), b188_18]
  rw [show (8 : Int32) = N 8 from rfl, show (2 : Int32) = N 2 from rfl, show (0 : Int32) = N 0 from rfl, N_mul, N_mul, N_add, N_add, Nat.add_zero]
/-- one ref of a formula set some rows on -/
theorem sh_step {L : Nat} {u2 u6 u7 : Value} (h : MR μ M σ) (hg : g < 4) (hK : KK (σ.1.1 g)) (hn : n < 1000) (hk : jk μ a = 20) (hl : jl μ a = L) (hL : L < 1000) (hj : 2 * j + 1 < L) (x : Int32 × Int32) (hx : jiv μ a (2 * j) = x.1 ∧ jiv μ a (2 * j + 1) = x.2) (hr : x.1 = N 3 → ∃ i, x.2 = N i ∧ rK i) : ∃ μ' v6 v7, jR (d + 1) 205 12 [.ref M, .int (N g), u2, .int (N n), .ref a, .int (N (2 * j)), u6, u7] [] μ = jR (d + 1) 205 12 [.ref M, .int (N g), u2, .int (N n), .ref a, .int (N (2 * (j + 1))), v6, v7] [] μ' ∧ Fx (fun b => b = a) (fun _ _ => False) μ μ' ∧ jiv μ' a = fun z => if z = 2 * j + 1 then (shp (σ.1.1 g) n x).2 else jiv μ a z := by
  have hq := h.1
  have k13 := hq.k13
  obtain ⟨H1, H2, H3, H4, H5⟩ := h.gq hg
  have al := alen_of (μ := μ) hk (by decide)
  rw [hl] at al
  have g1 := ent_get (μ := μ) (i := 2 * j) hk hl (by omega) hL
  have g2 := ent_get (μ := μ) (i := 2 * j + 1) hk hl (by omega) hL
  rw [hx.1] at g1
  rw [hx.2] at g2
  have e1 : N (2 * j) + 1 = N (2 * j + 1) := by rw [show (1 : Int32) = N 1 from rfl, N_add]
  have e2 : N (2 * j) + 2 = N (2 * (j + 1)) := by rw [show (2 : Int32) = N 2 from rfl, N_add]; congr 1
  have s135 : ∀ (v6 v7 : Value) (m : jM), jR (d + 1) 205 135 [.ref M, .int (N g), u2, .int (N n), .ref a, .int (N (2 * j)), v6, v7] [] m = jR (d + 1) 205 12 [.ref M, .int (N g), u2, .int (N n), .ref a, .int (N (2 * (j + 1))), v6, v7] [] m := fun v6 v7 m => by
    rw [b205_135 (h4 := ir_ref), e2]
  have same : x = shp (σ.1.1 g) n x → (fun z => if z = 2 * j + 1 then (shp (σ.1.1 g) n x).2 else jiv μ a z) = jiv μ a := by
    intro q
    funext z
    by_cases e : z = 2 * j + 1
    · rw [if_pos e, ← q, e, hx.2]
    · rw [if_neg e]
  rw [b205_12 (h4 := ir_ref)]
  simp only [al, Option.bind_some]
  rw [if_pos (by rw [N_lt (by omega) (by omega)]; omega)]
  simp only [g1, e1, g2, Option.bind_some]
  by_cases e3 : x.1 = N 3
  · obtain ⟨i, hi, hrK⟩ := hr e3
    have i1000 := rK_lt hrK
    have hsh : (shp (σ.1.1 g) n x).2 = N (rcan (rlow (σ.1.1 g) n i)) := by
      unfold shp
      rw [if_pos e3, hi, N_nat (by omega)]
    rw [if_pos (show x.1 = 3 from e3), hi]
    have ed : N i / 8 = N (i / 8) := N_divL (b := 8) (by omega) (by decide) (by decide)
    have em : N i - N i / 2 * 2 = N (i % 2) := N_modL (b := 2) (by omega) (by decide) (by decide)
    have em8 : N i - N (i / 8) * 8 = N (i % 8) := by rw [← ed]; exact N_modL (b := 8) (by omega) (by decide) (by decide)
    have em2 : N (i % 8) / 2 = N (i / 2 % 4) := by
      rw [show N (i % 8) / 2 = N (i % 8 / 2) from N_divL (b := 2) (by omega) (by decide) (by decide), show i % 8 / 2 = i / 2 % 4 by omega]
    rw [hi] at g2
    have kz0 : lfind (N 0) (σ.1.1 g) = none := lfind_0 hK.kz
    -- the place found
    have pf : ∃ v6, (if N i / 8 = 0 then jR (d + 1) 205 60 [.ref M, .int (N g), u2, .int (N n), .ref a, .int (N (2 * j)), .int (N i / 8), u7] [.int (-1)] μ else (if jrecv μ 13 (.ref M) = true then (jC d 194 [.ref M, .int (N g), .int (N i / 8)] μ).bind fun p4 => jR (d + 1) 205 60 [.ref M, .int (N g), u2, .int (N n), .ref a, .int (N (2 * j)), .int (N i / 8), u7] (p4.1.toList ++ []) p4.2 else none)) = jR (d + 1) 205 60 [.ref M, .int (N g), u2, .int (N n), .ref a, .int (N (2 * j)), v6, u7] [.int (pl (lfind (N (i / 8)) (σ.1.1 g)))] μ := by
      refine ⟨.int (N i / 8), ?_⟩
      by_cases e0 : i / 8 = 0
      · rw [if_pos (show N i / 8 = 0 by rw [ed, e0]; rfl), e0, kz0]; rfl
      · rw [if_neg (show ¬ N i / 8 = 0 by rw [ed]; show ¬ N _ = N 0; rw [N_inj (by omega) (by decide)]; exact e0)]
        simp only [gI13, gR13, pI13, pR13, rv13, k13, if_true, decide_true]
        rw [ed, h.place hg]
        rfl
    obtain ⟨v6, pf⟩ := pf
    rw [pf, b205_60 (h4 := ir_ref), e1]
    simp only [g2, Option.bind_some, em]
    by_cases eo : i % 2 = 1
    · rw [if_pos (show N (i % 2) = 1 by rw [eo]; rfl), s135]
      refine ⟨μ, _, _, rfl, Fx.refl, ?_⟩
      have er : rlow (σ.1.1 g) n i = i := by unfold rlow; rw [if_pos eo]
      have hc8 : 1 ≤ i / 8 := hrK.2.2 eo
      rw [same]
      rw [show x = (x.1, x.2) from rfl, e3, hi, shp_3 i1000, er]
      unfold rcan
      rw [if_neg (by omega)]
    · rw [if_neg (show ¬ N (i % 2) = 1 by show ¬ N _ = N 1; rw [N_inj (by omega) (by decide)]; exact eo)]
      have wr : ∀ (z : Nat) (v7 : Value), N z = N (rcan (rlow (σ.1.1 g) n i)) → ∃ μ' v6' v7', jR (d + 1) 205 134 [.ref M, .int (N g), u2, .int (N n), .ref a, .int (N (2 * j)), v6, v7] [.int (N z), .int (N (2 * j + 1)), .ref a] μ = jR (d + 1) 205 12 [.ref M, .int (N g), u2, .int (N n), .ref a, .int (N (2 * (j + 1))), v6', v7'] [] μ' ∧ Fx (fun b => b = a) (fun _ _ => False) μ μ' ∧ jiv μ' a = fun z => if z = 2 * j + 1 then (shp (σ.1.1 g) n x).2 else jiv μ a z := by
        intro z v7 hz
        have s1 := ent_set (μ := μ) (i := 2 * j + 1) (v := N z) hk hl (by omega) hL
        refine ⟨jsetI μ a (2 * j + 1) (N z), v6, v7, ?_, Fx.setI Fx.refl rfl, ?_⟩
        · rw [b205_134 (h4 := ir_ref) (hs0 := ir_ref)]
          simp only [s1, Option.bind_some]
          exact s135 ..
        · funext y
          rw [ivs, hsh, hz]
      have er : rlow (σ.1.1 g) n i = 8 * (kBel (σ.1.1 g) (N (i / 8)) n).toNatClampNeg + 2 * (i / 2 % 4) := by unfold rlow; rw [if_neg eo]
      have hcol := hrK.2.1
      have zero : kBel (σ.1.1 g) (N (i / 8)) n = N 0 → N 0 = N (rcan (rlow (σ.1.1 g) n i)) := by
        intro q
        rw [er, q, N_nat (by decide)]
        unfold rcan
        rw [if_pos (by omega)]
      cases ep : lfind (N (i / 8)) (σ.1.1 g) with
      | none =>
        rw [if_pos (show pl none = -1 from rfl), b205_133 (h4 := ir_ref) (hs0 := ir_ref)]
        exact wr 0 _ (zero (by unfold kBel; rw [ep]))
      | some p =>
        have hpl := lfind_lt ep
        have ro := hq.ro hg
        rw [H1.2.1, ← H4] at ro
        rw [if_neg (show ¬ pl (some p) = -1 from N_neg1 (by omega))]
        simp only [gI13, gR13, pI13, pR13, rv13, k13, hq.f.1, ro, if_true, Option.bind_some, rf_some, pl_some, N_add]
        have kb : kBel (σ.1.1 g) (N (i / 8)) n = keyO (σ.1.1 g) (p + n) := by unfold kBel; rw [ep]
        by_cases el : p + n < (σ.1.1 g).length
        · rw [if_pos (by rw [N_lt (by omega) (by omega)]; exact el)]
          have gk := hq.gk hg
          have gr := hq.gr hg
          have g3 := ent_get (μ := μ) (i := p + n) gk.1.1 gk.1.2 (by omega) (by decide)
          rw [← h.key hg el] at g3
          obtain ⟨w0, hw0⟩ : ∃ w0, (σ.1.1 g)[p + n]? = some w0 := ⟨_, List.getElem?_eq_getElem el⟩
          obtain ⟨k0, z1, z2, z3⟩ := hK w0 (List.mem_of_getElem? hw0)
          have ek : keyO (σ.1.1 g) (p + n) = N k0 := by unfold keyO; rw [hw0]; exact z3
          rw [ek] at g3 kb
          have ref := r_refOf (d := d) (μ := μ) (c := i / 2 % 4) z1 z2 (by omega)
          simp only [hq.f.2.1, gr.1, g3, if_true, Option.bind_some, rf_some, g2, ed, em8, em2, ref]
          show ∃ μ' v6' v7', jR (d + 1) 205 130 [.ref M, .int (N g), u2, .int (N n), .ref a, .int (N (2 * j)), v6, .int (N p)] [.int (N (8 * k0 + 2 * (i / 2 % 4))), .int (N (2 * j + 1)), .ref a] μ = _ ∧ _
          rw [b205_130 (h4 := ir_ref) (hs0 := ir_ref)]
          refine wr _ _ ?_
          rw [er, kb, N_nat (by omega)]
          unfold rcan
          rw [if_neg (by omega)]
        · rw [if_neg (by rw [N_lt (by omega) (by omega)]; exact el), b205_133 (h4 := ir_ref) (hs0 := ir_ref)]
          refine wr 0 _ (zero ?_)
          rw [kb]
          unfold keyO
          rw [List.getElem?_eq_none (by omega)]; rfl
  · rw [if_neg (show ¬ x.1 = 3 from e3), s135]
    exact ⟨μ, _, _, rfl, Fx.refl, (same (shp_id e3).symm).symm⟩
end LAY
