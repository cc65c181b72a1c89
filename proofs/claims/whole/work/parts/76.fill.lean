/-! FILLED: formulas lowered, cells below -/
/-- a token lowered, its column kept -/
def lw (G : DG) (n : Nat) (t : Tk) : Tk := if t.1 = N 114 then (t.1, t.2.1, kBel G t.2.2 n) else t
def rlow (G : DG) (n i : Nat) : Nat := if i % 2 = 1 then i else 8 * (kBel G (N (i / 8)) n).toNatClampNeg + 2 * (i / 2 % 4)
def elow (G : DG) (n : Nat) : Ex → Ex
  | .var i => .var (rlow G n i)
  | .num k => .num ((k.toNat / 1000000 * 1000000 + rlow G n (k.toNat / 1000 % 1000) * 1000 + rlow G n (k.toNat % 1000) : Nat) : Int)
  | .neg a => .neg (elow G n a)
  | .pow a k => .pow (elow G n a) k
  | .add a b => .add (elow G n a) (elow G n b)
  | .sub a b => .sub (elow G n a) (elow G n b)
  | .mul a b => .mul (elow G n a) (elow G n b)
  | .natCast v => .natCast v
  | .intCast v => .intCast v
theorem kBel_N {G : DG} (h : KK G) (k : Int32) (n : Nat) : ∃ i, i < 100 ∧ kBel G k n = N i := by
  unfold kBel
  cases lfind k G with
  | none => exact ⟨0, by decide, rfl⟩
  | some p => exact kyG_N h (p + n)
theorem rlow_K {G : DG} (h : KK G) {n i : Nat} (hi : rK i) : rK (rlow G n i) := by
  unfold rlow
  split
  · exact hi
  · obtain ⟨k, h1, h2⟩ := kBel_N h (N (i / 8)) n
    have := hi.2.1
    rw [h2, N_nat (by omega)]
    exact ⟨by omega, by omega, fun g => by omega⟩
theorem rT_low {G : DG} (h : KK G) {n i : Nat} (hi : rK i) : rT (rlow G n i) = lw G n (rT i) := by
  unfold rlow lw rT
  split
  · rename_i e
    rw [if_neg (show ¬ N 115 = N 114 by decide)]
  · rename_i e
    obtain ⟨k, h1, h2⟩ := kBel_N h (N (i / 8)) n
    have := hi.2.1
    rw [h2, N_nat (by omega), if_pos rfl, if_neg (by omega)]
    rw [show (8 * k + 2 * (i / 2 % 4)) / 2 % 4 = i / 2 % 4 by omega, show (8 * k + 2 * (i / 2 % 4)) / 8 = k by omega]
theorem lw_id {G : DG} {n : Nat} {x y z : Int32} (h : x ≠ N 114) : lw G n (x, y, z) = (x, y, z) := if_neg h
theorem lw_w {G : DG} {n w : Nat} : lw G n (wT w, N 0, N 0) = (wT w, N 0, N 0) := if_neg (by have := (wT_ne (w := w)).2.1; rw [this]; exact id)
theorem tw_low {G : DG} (hz : KZ G) {n : Nat} {t : Tk} : tw (lw G n t) ≤ tw t := by
  unfold lw
  split
  · rename_i e
    have e48 : ¬ t.1 = N 48 := by rw [e]; decide
    unfold tw
    show (if t.1 = N 48 then _ else if t.1 = N 114 then (if kBel G t.2.2 n = N 0 then 1 else 2) else _) ≤ _
    rw [if_neg e48, if_neg e48, if_pos e, if_pos e]
    by_cases e0 : t.2.2 = N 0
    · have : kBel G t.2.2 n = N 0 := by unfold kBel; rw [e0, lfind_0 hz]
      rw [if_pos this]; split <;> decide
    · rw [if_neg e0]; split <;> decide
  · exact Nat.le_refl _
theorem elow_ok {G : DG} (h : KK G) {n : Nat} : ∀ (e : Ex), (∀ u, lv u e → lv u (elow G n e) ∧ tks (elow G n e) = (tks e).map (lw G n) ∧ ∀ b, ords b (elow G n e) = ords b e) ∧ nst (elow G n e) = nst e
  | .natCast v => ⟨fun u hu => ⟨hu, by show [_] = [lw G n _]; rw [lw_id (by decide)], fun _ => rfl⟩, rfl⟩
  | .intCast v => ⟨fun u hu => hu.elim, rfl⟩
  | .var i => ⟨fun u hu => ⟨rlow_K h hu, by show [_] = [lw G n _]; rw [rT_low h hu], fun _ => rfl⟩, rfl⟩
  | .num k => by
    refine ⟨fun u hu => ?_, rfl⟩
    obtain ⟨h0, h1, h2, h3⟩ := hu
    have r2 := rlow_K h (n := n) h2
    have r3 := rlow_K h (n := n) h3
    obtain ⟨k1, k2, k3⟩ := rcode (w := k.toNat / 1000000) (rK_lt r2) (rK_lt r3)
    refine ⟨⟨Int.natCast_nonneg _, ?_⟩, ?_, fun _ => rfl⟩
    · rw [Int.toNat_natCast, k1, k2, k3]; exact ⟨h1, r2, r3⟩
    · show tks (.num ((k.toNat / 1000000 * 1000000 + rlow G n (k.toNat / 1000 % 1000) * 1000 + rlow G n (k.toNat % 1000) : Nat) : Int)) = _
      simp only [tks, Int.toNat_natCast, k1, k2, k3, List.map_cons, List.map_nil, rT_low h h2, rT_low h h3, lw_w, lw_id (G := G) (n := n) (show (N 40) ≠ N 114 by decide), lw_id (G := G) (n := n) (show (N 58) ≠ N 114 by decide), lw_id (G := G) (n := n) (show (N 41) ≠ N 114 by decide)]
  | .neg a => by
    obtain ⟨i1, i2⟩ := elow_ok h (n := n) a
    refine ⟨fun u hu => ?_, by show nst (elow G n a) + 1 = nst a + 1; rw [i2]⟩
    obtain ⟨j1, j2, j3⟩ := i1 0 hu
    exact ⟨j1, by show _ :: tks (elow G n a) = lw G n _ :: _; rw [j2, lw_id (by decide)], fun b => by show ords (b + 1) (elow G n a) ++ [b] = _; rw [j3]; rfl⟩
  | .pow a k => by
    obtain ⟨i1, i2⟩ := elow_ok h (n := n) a
    refine ⟨fun u hu => ?_, by show nst (elow G n a) + 1 = nst a + 1; rw [i2]⟩
    obtain ⟨j1, j2, j3⟩ := i1 2 hu.2
    refine ⟨⟨hu.1, j1⟩, ?_, fun b => by show ords (b + 1) (elow G n a) = _; rw [j3]; rfl⟩
    show (N 40, N 0, N 0) :: (tks (elow G n a) ++ [(N 41, N 0, N 0)]) = ((N 40, N 0, N 0) :: (tks a ++ [(N 41, N 0, N 0)])).map (lw G n)
    rw [List.map_cons, List.map_append, List.map_cons, List.map_nil, j2, lw_id (by decide), lw_id (by decide)]
  | .add a b => by
    obtain ⟨i1, i2⟩ := elow_ok h (n := n) a
    obtain ⟨k1, k2⟩ := elow_ok h (n := n) b
    refine ⟨fun u hu => ?_, by show max _ _ = max _ _; rw [i2, k2]⟩
    obtain ⟨j1, j2, j3⟩ := i1 2 hu.2.1
    obtain ⟨l1, l2, l3⟩ := k1 1 hu.2.2
    have hl : (tks (elow G n a)).length = (tks a).length := by rw [j2, List.length_map]
    refine ⟨⟨hu.1, j1, l1⟩, ?_, fun c => ?_⟩
    · show tks (elow G n a) ++ (N 43, N 0, N 0) :: tks (elow G n b) = (tks a ++ (N 43, N 0, N 0) :: tks b).map (lw G n)
      rw [List.map_append, List.map_cons, j2, l2, lw_id (by decide)]
    · show ords c (elow G n a) ++ (ords (c + (tks (elow G n a)).length + 1) (elow G n b) ++ [c + (tks (elow G n a)).length]) = ords c a ++ (ords (c + (tks a).length + 1) b ++ [c + (tks a).length])
      rw [j3, l3, hl]
  | .sub a b => by
    obtain ⟨i1, i2⟩ := elow_ok h (n := n) a
    obtain ⟨k1, k2⟩ := elow_ok h (n := n) b
    refine ⟨fun u hu => ?_, by show max _ _ = max _ _; rw [i2, k2]⟩
    obtain ⟨j1, j2, j3⟩ := i1 2 hu.2.1
    obtain ⟨l1, l2, l3⟩ := k1 1 hu.2.2
    have hl : (tks (elow G n a)).length = (tks a).length := by rw [j2, List.length_map]
    refine ⟨⟨hu.1, j1, l1⟩, ?_, fun c => ?_⟩
    · show tks (elow G n a) ++ (N 45, N 0, N 0) :: tks (elow G n b) = (tks a ++ (N 45, N 0, N 0) :: tks b).map (lw G n)
      rw [List.map_append, List.map_cons, j2, l2, lw_id (by decide)]
    · show ords c (elow G n a) ++ (ords (c + (tks (elow G n a)).length + 1) (elow G n b) ++ [c + (tks (elow G n a)).length]) = ords c a ++ (ords (c + (tks a).length + 1) b ++ [c + (tks a).length])
      rw [j3, l3, hl]
  | .mul a b => by
    obtain ⟨i1, i2⟩ := elow_ok h (n := n) a
    obtain ⟨k1, k2⟩ := elow_ok h (n := n) b
    refine ⟨fun u hu => ?_, by show max _ _ = max _ _; rw [i2, k2]⟩
    obtain ⟨j1, j2, j3⟩ := i1 1 hu.2.1
    obtain ⟨l1, l2, l3⟩ := k1 0 hu.2.2
    have hl : (tks (elow G n a)).length = (tks a).length := by rw [j2, List.length_map]
    refine ⟨⟨hu.1, j1, l1⟩, ?_, fun c => ?_⟩
    · show tks (elow G n a) ++ (N 42, N 0, N 0) :: tks (elow G n b) = (tks a ++ (N 42, N 0, N 0) :: tks b).map (lw G n)
      rw [List.map_append, List.map_cons, j2, l2, lw_id (by decide)]
    · show ords c (elow G n a) ++ (ords (c + (tks (elow G n a)).length + 1) (elow G n b) ++ [c + (tks (elow G n a)).length]) = ords c a ++ (ords (c + (tks a).length + 1) b ++ [c + (tks a).length])
      rw [j3, l3, hl]
theorem wsum_low {G : DG} (hz : KZ G) {n : Nat} : ∀ (T : List Tk), ((T.map (lw G n)).map tw).sum ≤ (T.map tw).sum
  | [] => Nat.le_refl _
  | t :: T => by
    have h1 := wsum_low hz (n := n) T
    have h2 := tw_low hz (n := n) (t := t)
    simp only [List.map_cons, List.sum_cons]
    omega
theorem FW.low {G : DG} (h : KK G) {n : Nat} {T : List Tk} {O : List Int32} (hw : FW T O) : FW (T.map (lw G n)) O := by
  obtain ⟨e, h1, h2, h3, h4, h5⟩ := hw
  obtain ⟨i1, i2⟩ := elow_ok h (n := n) e
  obtain ⟨j1, j2, j3⟩ := i1 2 h1
  exact ⟨elow G n e, j1, by rw [i2]; exact h2, by rw [j2, h3], by rw [j3]; exact h4, Nat.le_trans (wsum_low h.kz T) h5⟩
/-- lowered, as it is read -/
theorem lowT_can {G : DG} (hz : KZ G) {n : Nat} {t : Tk} : tcan (lw G n t) = lowT G n (tcan t) := by
  unfold lw lowT
  by_cases e : t.1 = N 114
  · rw [if_pos e]
    by_cases e0 : t.2.2 = N 0
    · have hk : kBel G t.2.2 n = N 0 := by unfold kBel; rw [e0, lfind_0 hz]
      have ht : tcan t = (t.1, N 0, N 0) := if_pos ⟨e, e0⟩
      have hk0 : kBel G (N 0) n = N 0 := by unfold kBel; rw [lfind_0 hz]
      rw [hk, ht, if_pos e]
      show tcan (t.1, t.2.1, N 0) = tcan (t.1, N 0, kBel G (N 0) n)
      rw [hk0]
      unfold tcan
      rw [if_pos ⟨e, rfl⟩, if_pos ⟨e, rfl⟩]
    · have ht : tcan t = t := if_neg (fun g => e0 g.2)
      rw [ht, if_pos e]
  · have ht : tcan t = t := if_neg (fun g => e g.1)
    rw [if_neg e, ht, if_neg e]
section FILL
variable {μ μ' μ'' μ1 : jM} {q D g d p n w f r c m : Nat} {T : List Tk} {O : List Int32} {G : DG}
theorem d_keyBelow {k : Int32} (hg : GV μ D g) (hG : dG μ (xA g) = G) (hn : n < 1000) : jC (d + 1) 104 [.ref g, .int k, .int (N n)] μ = some (some (.int (kBel G k n)), μ) := by
  rw [x_keyBelow hg.2.1 hg.2.2.1 hn]
  unfold kBel
  rw [← hG, lfind_dG]
  cases lfind k (rG μ (xA g)) with
  | none => rfl
  | some i => show some (some (Value.int (keyO (rG μ (xA g)) (i + n))), μ) = _; rw [← keyO_dG]
/-- Formula.lowered -/
theorem x_lowered (hj : JW μ) (hf : FS μ D f) (hD : D ≤ jsz μ) (hg : GV μ D g) (hG : dG μ (xA g) = G) (hn : n < 1000) : ∃ μ' f', jC (d + 2) 81 [.ref f, .ref g, .int (N n)] μ = some (some (.ref f'), μ') ∧ Fa (fun _ => False) (fun _ _ => False) 2 44 μ μ' ∧ FS μ' D f' ∧ ftk μ' f' = (ftk μ f).map (lw G n) ∧ ford μ' f' = ford μ f := by
  obtain ⟨k5, d5, hr, l1, l2, l40, o40⟩ := hf
  have hf : FS μ D f := ⟨k5, d5, hr, l1, l2, l40, o40⟩
  obtain ⟨r0, q0, t0⟩ := hr 0 (by decide)
  obtain ⟨r1, q1, t1⟩ := hr 1 (by decide)
  obtain ⟨r2, q2, t2⟩ := hr 2 (by decide)
  obtain ⟨r3, q3, t3⟩ := hr 3 (by decide)
  have z5 := hj.lt (ne99 k5 (by decide))
  have z0 := hj.lt (ne99 t0 (by decide))
  have z1 := hj.lt (ne99 t1 (by decide))
  have z2 := hj.lt (ne99 t2 (by decide))
  have z3 := hj.lt (ne99 t3 (by decide))
  obtain ⟨μ1, c1, F1, s1, k1, l1', v1⟩ := x_copyOf (d := d) (a := fa μ f 2) (n0 := jl μ (fa μ f 0)) hj t2 (by omega) (by omega)
  have e5 : jk μ1 f = 5 := by rw [F1.kk z5]; exact k5
  have er : ∀ j, jrv μ1 f j = jrv μ f j := fun j => F1.rv z5 id
  have b5 : ∀ μ2 : jM, Fx (fun b => b = jsz μ) (fun _ _ => False) μ1 μ2 → Fa (fun _ => False) (fun _ _ => False) 1 40 μ μ2 := fun μ2 F2 =>
    (F1.trans (F2.fa F1.jw) (fun a ha g => by have g : a = jsz μ := g; omega) (fun _ _ _ g => g)).mono (fun _ _ g => g) (fun _ _ _ g => g) (by omega) (by omega)
  -- the keys from place i on
  have loop : ∀ (k i : Nat) (μ2 : jM), i + k = jl μ (fa μ f 0) → Fx (fun b => b = jsz μ) (fun _ _ => False) μ1 μ2 → (∀ j, j < i → jiv μ2 (jsz μ) j = (lw G n (jiv μ (fa μ f 0) j, jiv μ (fa μ f 1) j, jiv μ (fa μ f 2) j)).2.2) → (∀ j, i ≤ j → j < jl μ (fa μ f 0) → jiv μ2 (jsz μ) j = jiv μ (fa μ f 2) j) → ∃ μ3, jR (d + 2) 81 16 [.ref f, .ref g, .int (N n), .ref (jsz μ), .int (N i)] [] μ2 = jR (d + 2) 81 16 [.ref f, .ref g, .int (N n), .ref (jsz μ), .int (N (jl μ (fa μ f 0)))] [] μ3 ∧ Fx (fun b => b = jsz μ) (fun _ _ => False) μ1 μ3 ∧ ∀ j, j < jl μ (fa μ f 0) → jiv μ3 (jsz μ) j = (lw G n (jiv μ (fa μ f 0) j, jiv μ (fa μ f 1) j, jiv μ (fa μ f 2) j)).2.2 := by
    intro k
    induction k with
    | zero =>
      intro i μ2 hi F2 hlo hhi
      rw [Nat.add_zero] at hi
      subst hi
      exact ⟨μ2, rfl, F2, hlo⟩
    | succ k ih =>
      intro i μ2 hi F2 hlo hhi
      have hil : i < jl μ (fa μ f 0) := by omega
      have G2 := b5 μ2 F2
      have m1 : jk μ2 (jsz μ) = 20 := by rw [F2.kk]; exact k1
      have m2 : jl μ2 (jsz μ) = jl μ (fa μ f 0) := by rw [F2.ll]; exact l1'
      have a5 : jk μ2 f = 5 := by rw [G2.kk z5]; exact k5
      have ar : ∀ j, jrv μ2 f j = jrv μ f j := fun j => G2.rv z5 id
      have g0 := ent_get (μ := μ2) (a := fa μ f 0) (l := jl μ (fa μ f 0)) (by rw [G2.kk z0]; exact t0) (G2.ll z0) hil (by omega)
      rw [G2.iv z0 id] at g0
      have g2 := ent_get (μ := μ2) (a := fa μ f 2) (l := jl μ (fa μ f 0)) (by rw [G2.kk z2]; exact t2) (by rw [G2.ll z2]; exact l2) hil (by omega)
      rw [G2.iv z2 id] at g2
      have hal := alen_of (μ := μ2) m1 (by decide)
      obtain ⟨hg2, hG2⟩ := hg.outa hj G2 (fun a _ g => g.elim) (fun a j _ g => g.elim)
      have hb := d_keyBelow (d := d) (k := jiv μ (fa μ f 2) i) hg2 (hG2.trans hG) hn
      rw [b81_16 (h1 := ir_ref) (h3 := ir_ref)]
      simp only [hal, m2, aI_eq, aB_eq, aR_eq, sI_eq, sB_eq, sR_eq, Option.bind_some, Option.bind_none, if_true, if_false, true_or, or_true, false_or, or_false, true_and, and_true, false_and, and_false, decide_eq_true_eq, decide_true, decide_false, eq_self, not_true_eq_false, not_false_eq_true, jfit0, N_lit, N_add, N_mul, NEG_eq, pl_none, pl_some, rf_some, rf_none, jun_ref, jun_null, ir_ref, ir_null, jr_rf, jun_rf, Option.toList_some, Option.toList_none, List.nil_append, List.cons_append, N_lt (show i < 2147483648 by omega) (show jl μ (fa μ f 0) < 2147483648 by omega), hil, gI5, gR5, pI5, pR5, rv5, gI6, gR6, pI6, pR6, rv6, a5, ar, r0, r2, g0, g2, hg2.2.1.1.1, hb]
      by_cases e : jiv μ (fa μ f 0) i = N 114
      · simp only [if_pos e]
        have s2 := ent_set (μ := μ2) (v := kBel G (jiv μ (fa μ f 2) i) n) m1 m2 hil (by omega)
        rw [b81_50 (h1 := ir_ref) (h3 := ir_ref) (hs0 := ir_ref), s2]
        simp only [Option.bind_some]
        rw [b81_51 (h1 := ir_ref) (h3 := ir_ref)]
        simp only [N_lit, N_add]
        refine ih (i + 1) _ (by omega) (by refine Fx.setI F2 ?_; exact (rfl : jsz μ = jsz μ)) (fun j hj' => ?_) (fun j h1 h2 => ?_)
        · by_cases ej : j = i
          · subst ej
            simp only [ty_setI, ty_setR, ty_rowI, ty_rowR, jk_setI, jk_setR, jk_rowI, jk_rowR, jl_setI, jl_setR, jl_rowI, jl_rowR, sz_setI, sz_setR, sz_rowI, sz_rowR, ext_setI, ext_setR, iv_setI, iv_setR, iv_rowI, iv_rowR, rv_setI, rv_setR, rv_rowI, rv_rowR, iv_setIn, iv_rowIn, rv_setRn, rv_rowRn, iv_rowIe, rv_rowRe, and_self, if_true]
            unfold lw
            rw [if_pos e]
          · simp only [ty_setI, ty_setR, ty_rowI, ty_rowR, jk_setI, jk_setR, jk_rowI, jk_rowR, jl_setI, jl_setR, jl_rowI, jl_rowR, sz_setI, sz_setR, sz_rowI, sz_rowR, ext_setI, ext_setR, iv_setI, iv_setR, iv_rowI, iv_rowR, rv_setI, rv_setR, rv_rowI, rv_rowR, iv_setIn, iv_rowIn, rv_setRn, rv_rowRn, iv_rowIe, rv_rowRe, ej, and_false, if_false]
            exact hlo j (by omega)
        · simp only [ty_setI, ty_setR, ty_rowI, ty_rowR, jk_setI, jk_setR, jk_rowI, jk_rowR, jl_setI, jl_setR, jl_rowI, jl_rowR, sz_setI, sz_setR, sz_rowI, sz_rowR, ext_setI, ext_setR, iv_setI, iv_setR, iv_rowI, iv_rowR, rv_setI, rv_setR, rv_rowI, rv_rowR, iv_setIn, iv_rowIn, rv_setRn, rv_rowRn, iv_rowIe, rv_rowRe, show ¬ j = i by omega, and_false, if_false]
          exact hhi j (by omega) h2
      · simp only [if_neg e]
        rw [b81_51 (h1 := ir_ref) (h3 := ir_ref)]
        simp only [N_lit, N_add]
        refine ih (i + 1) _ (by omega) F2 (fun j hj' => ?_) (fun j h1 h2 => hhi j (by omega) h2)
        by_cases ej : j = i
        · subst ej
          rw [hhi j (Nat.le_refl _) hil]
          unfold lw
          rw [if_neg e]
        · exact hlo j (by omega)
  obtain ⟨μ3, c3, F3, v3⟩ := loop (jl μ (fa μ f 0)) 0 μ1 (by omega) Fx.refl (fun j hj' => by omega) (fun j _ h2 => v1 j h2 (by omega))
  have G3 := b5 μ3 F3
  have n3 : jsz μ3 = jsz μ + 1 := by rw [F3.sz]; exact s1
  have F4 : Fa (fun _ => False) (fun _ _ => False) 1 4 μ3 (jnew μ3 5 0 4) := Fa.new G3.jw
  have G4 := G3.trans F4 (fun _ _ g => g) (fun _ _ _ g => g)
  have kn : jk (jnew μ3 5 0 4) (jsz μ3) = 5 := nk_e
  have nn : jsz (jnew μ3 5 0 4) = jsz μ3 + 1 := nsz
  have k3 : jk (jnew μ3 5 0 4) (jsz μ) = 20 := by rw [F4.kk (by omega), F3.kk]; exact k1
  have l3 : jl (jnew μ3 5 0 4) (jsz μ) = jl μ (fa μ f 0) := by rw [F4.ll (by omega), F3.ll]; exact l1'
  have i3 : jiv (jnew μ3 5 0 4) (jsz μ) = jiv μ3 (jsz μ) := F4.iv (by omega) id
  have a5 : jk (jnew μ3 5 0 4) f = 5 := by rw [G4.kk z5]; exact k5
  have ar : ∀ j, jrv (jnew μ3 5 0 4) f j = jrv μ f j := fun j => G4.rv z5 id
  have b81 : jR (d + 2) 81 16 [.ref f, .ref g, .int (N n), .ref (jsz μ), .int (N (jl μ (fa μ f 0)))] [] μ3 = (jC (d + 1) 80 [.ref (jsz μ3), .ref (fa μ f 0), .ref (fa μ f 1), .ref (jsz μ), .ref (fa μ f 3)] (jnew μ3 5 0 4)).bind fun p5 => jR (d + 2) 81 77 [.ref f, .ref g, .int (N n), .ref (jsz μ), .int (N (jl μ (fa μ f 0)))] (p5.1.toList ++ [.ref (jsz μ3)]) p5.2 := by
    have hal := alen_of (μ := μ3) (a := jsz μ) (k := 20) (by rw [F3.kk]; exact k1) (by decide)
    have hl3 : jl μ3 (jsz μ) = jl μ (fa μ f 0) := by rw [F3.ll]; exact l1'
    rw [b81_16 (h1 := ir_ref) (h3 := ir_ref)]
    simp only [hal, hl3, aI_eq, aB_eq, aR_eq, sI_eq, sB_eq, sR_eq, Option.bind_some, Option.bind_none, if_true, if_false, true_or, or_true, false_or, or_false, true_and, and_true, false_and, and_false, decide_eq_true_eq, decide_true, decide_false, eq_self, not_true_eq_false, not_false_eq_true, jfit0, N_lit, N_add, N_mul, NEG_eq, pl_none, pl_some, rf_some, rf_none, jun_ref, jun_null, ir_ref, ir_null, jr_rf, jun_rf, Option.toList_some, Option.toList_none, List.nil_append, List.cons_append, N_lt (show jl μ (fa μ f 0) < 2147483648 by omega) (show jl μ (fa μ f 0) < 2147483648 by omega), Nat.lt_irrefl, gI5, gR5, pI5, pR5, rv5, a5, ar, r0, r1, r3]
  generalize jnew μ3 5 0 4 = μ4 at *
  have TL : ∀ i t, ((ftk μ f).map (lw G n))[i]? = some t → jiv μ4 (fa μ f 0) i = t.1 ∧ jiv μ4 (fa μ f 1) i = t.2.1 ∧ jiv μ4 (jsz μ) i = t.2.2 := fun i t hi => by
    have hlt : i < jl μ (fa μ f 0) := by
      have := (List.getElem?_eq_some_iff.mp hi).1
      rw [List.length_map, len_fT] at this; exact this
    rw [List.getElem?_map, fT_get hlt] at hi
    cases hi
    rw [G4.iv z0 id, G4.iv z1 id, i3, v3 i hlt]
    unfold lw
    split <;> exact ⟨rfl, rfl, rfl⟩
  obtain ⟨μ5, c5, F5, g1, g2, g3⟩ := x_finit (d := d) (μ := μ4) (f := jsz μ3) (f0 := fa μ f 0) (f1 := fa μ f 1) (f2 := jsz μ) (f3 := fa μ f 3) (D := D) (T := (ftk μ f).map (lw G n)) (O := ford μ f) kn (by omega)
    ⟨by rw [G4.kk z0]; exact t0, q0⟩ ⟨by rw [G4.kk z1]; exact t1, q1⟩ ⟨k3, hD⟩ ⟨by rw [G4.kk z3]; exact t3, q3⟩
    (by rw [G4.ll z0, List.length_map, len_fT]) (by rw [G4.ll z1, List.length_map, len_fT]; exact l1) (by rw [l3, List.length_map, len_fT]) (by rw [G4.ll z3]; unfold ford; simp)
    (by rw [List.length_map, len_fT]; exact l40) (by unfold ford; simp; exact o40) TL (fun i o hi => by
      rw [G4.iv z3 id]
      unfold ford at hi
      have hlt : i < jl μ (fa μ f 3) := by
        have := (List.getElem?_eq_some_iff.mp hi).1
        simpa using this
      rw [List.getElem?_map, List.getElem?_range hlt] at hi
      cases hi; rfl)
  refine ⟨μ5, jsz μ3, ?_, ?_, g1, g2, g3⟩
  · rw [jC_run (by decide)]
    show jR (d + 2) 81 0 [.ref f, .ref g, .int (N n), .retAddr 0, .retAddr 0] [] μ = _
    rw [b81_0 (h1 := ir_ref)]
    have hal := alen_of (μ := μ) t2 (by decide)
    simp only [gI5, gR5, pI5, pR5, rv5, aI_eq, aB_eq, aR_eq, sI_eq, sB_eq, sR_eq, Option.bind_some, Option.bind_none, if_true, if_false, true_or, or_true, false_or, or_false, true_and, and_true, false_and, and_false, decide_eq_true_eq, decide_true, decide_false, eq_self, not_true_eq_false, not_false_eq_true, jfit0, N_lit, N_add, N_mul, NEG_eq, pl_none, pl_some, rf_some, rf_none, jun_ref, jun_null, ir_ref, ir_null, jr_rf, jun_rf, Option.toList_some, Option.toList_none, List.nil_append, List.cons_append, k5, r2, hal, l2, c1]
    rw [b81_12 (h1 := ir_ref) (hs0 := ir_ref)]
    simp only [N_lit]
    rw [c3, b81, c5]
    simp only [aI_eq, aB_eq, aR_eq, sI_eq, sB_eq, sR_eq, Option.bind_some, Option.bind_none, if_true, if_false, true_or, or_true, false_or, or_false, true_and, and_true, false_and, and_false, decide_eq_true_eq, decide_true, decide_false, eq_self, not_true_eq_false, not_false_eq_true, jfit0, N_lit, N_add, N_mul, NEG_eq, pl_none, pl_some, rf_some, rf_none, jun_ref, jun_null, ir_ref, ir_null, jr_rf, jun_rf, Option.toList_some, Option.toList_none, List.nil_append, List.cons_append, b81_77]
  · exact (G4.trans (F5.fa F4.jw) (fun _ _ g => g) (fun a j ha g => by have g : a = jsz μ3 := g; omega)).mono (fun _ _ g => g) (fun _ _ _ g => g) (by omega) (by omega)
/-- only contents change: the keys below stay -/
theorem keys_lset {φ : Type} {l : List (RW φ)} {p : Option Nat} {v : RC φ → RC φ} : (lset l p c v).map (fun w => w.1) = l.map (fun w => w.1) := by
  cases p with
  | none => rfl
  | some i =>
    show (l.modify i _).map _ = _
    refine List.ext_getElem? fun j => ?_
    rw [List.getElem?_map, List.getElem?_map, List.getElem?_modify]
    cases e : l[j]? with
    | none => rfl
    | some w =>
      show some _ = some _
      by_cases ei : i = j
      · simp only [if_pos ei, Option.map_some]
        unfold rset
        repeat' split
        all_goals rfl
      · simp only [if_neg ei]
theorem keyO_keys {l l' : DG} (h : l.map (fun w => w.1) = l'.map (fun w => w.1)) (i : Nat) : keyO l i = keyO l' i := by
  unfold keyO
  have : ∀ l : DG, (l[i]?).map (fun w => w.1) = (l.map (fun w => w.1))[i]? := fun l => by rw [List.getElem?_map]
  rw [this, this, h]
theorem kBel_keys {l l' : DG} (h : l.map (fun w => w.1) = l'.map (fun w => w.1)) (k : Int32) (n : Nat) : kBel l k n = kBel l' k n := by
  unfold kBel
  rw [lfind_keys h k]
  cases lfind k l' with
  | none => rfl
  | some i => exact keyO_keys h (i + n)
theorem keys_pFill {x : DC} {r c : Nat} : ∀ m, (pFill G x r c m).map (fun w => w.1) = G.map (fun w => w.1)
  | 0 => rfl
  | m + 1 => by
    show (lset (pFill G x r c m) _ c _).map _ = _
    rw [keys_lset, keys_pFill m]
theorem lw_keys {l l' : DG} (h : l.map (fun w => w.1) = l'.map (fun w => w.1)) (n : Nat) (t : Tk) : lw l n t = lw l' n t := by
  unfold lw
  rw [kBel_keys h]
theorem d_fillBelow (hK : KK G) (hg : GV μ D g) (hG : dG μ (xA g) = G) (hj : JW μ) (hD : D ≤ jsz μ) (hr : r < G.length) (hc : c < 3) (h1 : 1 ≤ n) (h7 : n ≤ 7) : ∃ μ', jC (d + 4) 100 [.ref g, .int (N r), .int (N c), .int (N n)] μ = some (some (.int (N (min n (G.length - 1 - r)))), μ') ∧ Fa (fun a => g ≤ a ∧ a < g + 6) (fun a _ => g ≤ a ∧ a < g + 6) 14 308 μ μ' ∧ GV μ' D g ∧ dG μ' (xA g) = pFill G (cO [] G (some r) c) r c (min n (G.length - 1 - r)) := by
  have hl8 : G.length ≤ 8 := by rw [← hG, len_dG]; exact hg.2.2.1.2
  have hvn : vN μ (xA g) = G.length := by rw [← hG, len_dG]
  have hn0 : jiv μ g 0 = N G.length := by rw [← hvn]; exact hg.2.2.1.1
  have k6 := hg.2.1.1.1
  have c1 := d_kindAt (d := d + 2) (p := some r) (c := c) hg (one_small (by omega)) hc
  have c2 := d_numberAt (d := d + 2) (p := some r) (c := c) hg (one_small (by omega)) hc
  have c3 := x_formulaAt (d := d + 2) (p := some r) (c := c) hg.2.1 hg.2.2.1 (one_small (by omega)) hc
  have hcell := hg.cell (p := some r) (c := c)
  have hdc : cO [] G (some r) c = rcm (dF μ) (cO none (rG μ (xA g)) (some r) c) := by rw [← hG]; exact cO_dG
  rw [hG] at c1 c2
  simp only [pl_some] at c1 c2 c3
  obtain ⟨m, hm⟩ : ∃ m, m = min n (G.length - 1 - r) := ⟨_, rfl⟩
  rw [← hm]
  have hm7 : m ≤ 7 := by omega
  generalize hX : cO none (rG μ (xA g)) (some r) c = X0 at *
  obtain ⟨X1, X2, X3, X4⟩ := X0
  have ek : (cO [] G (some r) c).1 = X1 := by rw [hdc]; rfl
  have en : (cO [] G (some r) c).2.1 = X2 := by rw [hdc]; rfl
  have ef : (cO [] G (some r) c).2.2.1 = dF μ X3 := by rw [hdc]; rfl
  rw [ek] at c1
  rw [en] at c2
  have c3 : jC (d + 2 + 1) 103 [.ref g, .int (N r), .int (N c)] μ = some (some (va_rf X3), μ) := c3
  have loop : ∀ (k i : Nat) (μ1 : jM), i + k = m → Fa (fun a => g ≤ a ∧ a < g + 6) (fun a _ => g ≤ a ∧ a < g + 6) (2 * i) (44 * i) μ μ1 → GV μ1 D g → dG μ1 (xA g) = pFill G (cO [] G (some r) c) r c i → ∃ μ', jR (d + 4) 100 41 [.ref g, .int (N r), .int (N c), .int (N n), .int (N m), .int X1, .int X2, va_rf X3, .int (N (i + 1))] [] μ1 = some (some (.int (N m)), μ') ∧ Fa (fun a => g ≤ a ∧ a < g + 6) (fun a _ => g ≤ a ∧ a < g + 6) (2 * m) (44 * m) μ μ' ∧ GV μ' D g ∧ dG μ' (xA g) = pFill G (cO [] G (some r) c) r c m := by
    intro k
    induction k with
    | zero =>
      intro i μ1 hi F1 hg1 hd1
      rw [Nat.add_zero] at hi
      subst hi
      refine ⟨μ1, ?_, F1, hg1, hd1⟩
      rw [b100_41 (h7 := jr_rf), if_pos (by rw [N_lt (by omega) (by omega)]; omega)]
    | succ k ih =>
      intro i μ1 hi F1 hg1 hd1
      have hkeys : (dG μ1 (xA g)).map (fun w => w.1) = G.map (fun w => w.1) := by rw [hd1]; exact keys_pFill i
      have hD1 : D ≤ jsz μ1 := by have := F1.2.1.1; omega
      have FDD : FD D μ μ1 := F1.fd hj (fun a _ g => by have := hg.1; omega) (fun a j _ g => by have := hg.1; omega)
      -- with what is laid into the cell
      have fin : ∀ (μ2 : jM) (f2 : Option Nat), Fa (fun _ => False) (fun _ _ => False) 2 44 μ1 μ2 → cellOK μ2 D (X1, X2, f2, N 0) → dF μ2 f2 = (dF μ X3).map (lowT G (i + 1)) → ∃ μ', jR (d + 4) 100 75 [.ref g, .int (N r), .int (N c), .int (N n), .int (N m), .int X1, .int X2, va_rf X3, .int (N (i + 1))] [va_rf f2, .int X2, .int X1, .int (N c), .int (N r + N (i + 1)), .ref g] μ2 = some (some (.int (N m)), μ') ∧ Fa (fun a => g ≤ a ∧ a < g + 6) (fun a _ => g ≤ a ∧ a < g + 6) (2 * m) (44 * m) μ μ' ∧ GV μ' D g ∧ dG μ' (xA g) = pFill G (cO [] G (some r) c) r c m := by
        intro μ2 f2 F2 hcell2 hdf
        obtain ⟨hg2, hd2⟩ := hg1.outa F1.jw F2 (fun a _ g => g.elim) (fun a j _ g => g.elim)
        obtain ⟨μ3, s1, F3, hg3, hd3⟩ := d_setContent (d := d + 2) (p := some (r + (i + 1))) (c := c) hg2 (one_small (by omega)) hc hcell2
        simp only [pl_some] at s1
        have F23 : Fa (fun a => g ≤ a ∧ a < g + 6) (fun a _ => g ≤ a ∧ a < g + 6) (2 * (i + 1)) (44 * (i + 1)) μ μ3 := by
          have F3' : Fa (fun a => g ≤ a ∧ a < g + 6) (fun a _ => g ≤ a ∧ a < g + 6) 0 0 μ2 μ3 := (F3.fa F2.jw).mono (fun _ _ g => g) (fun a j _ e => by
            have e : a = g + 4 := e
            omega) (Nat.le_refl _) (Nat.le_refl _)
          exact ((F1.trans F2 (fun _ _ g => g.elim) (fun _ _ _ g => g.elim)).trans F3' (fun _ _ g => g) (fun _ _ _ g => g)).mono (fun _ _ g => g) (fun _ _ _ g => g) (by omega) (by omega)
        obtain ⟨μ', q1, q2⟩ := ih (i + 1) μ3 (by omega) F23 hg3 (by
          rw [hd3, hd2, hd1]
          show lset (pFill G (cO [] G (some r) c) r c i) (some (r + (i + 1))) c _ = lset (pFill G (cO [] G (some r) c) r c i) (some (r + (i + 1))) c _
          rw [hdf, ek, en, ef])
        refine ⟨μ', ?_, q2⟩
        rw [b100_75 (h7 := jr_rf) (hs0 := ir_ref) (hs5 := jr_rf)]
        simp only [gI6, gR6, pI6, pR6, rv6, aI_eq, aB_eq, aR_eq, sI_eq, sB_eq, sR_eq, Option.bind_some, Option.bind_none, if_true, if_false, true_or, or_true, false_or, or_false, true_and, and_true, false_and, and_false, decide_eq_true_eq, decide_true, decide_false, eq_self, not_true_eq_false, not_false_eq_true, jfit0, N_lit, N_add, N_mul, NEG_eq, pl_none, pl_some, rf_some, rf_none, jun_ref, jun_null, ir_ref, ir_null, jr_rf, jun_rf, Option.toList_some, Option.toList_none, List.nil_append, List.cons_append, hg2.2.1.1.1, s1]
        rw [b100_78 (h7 := jr_rf)]
        simp only [N_lit, N_add]
        exact q1
      rw [b100_41 (h7 := jr_rf), if_neg (by rw [N_lt (by omega) (by omega)]; omega)]
      rcases hcell with ⟨h1, h2, h3⟩ | ⟨h1, h3⟩ | ⟨h1, h2, f, h3, h4, h5⟩
      · have h3 : X3 = none := h3
        have h1 : X1 = N 0 := h1
        have h2 : X2 = N 0 := h2
        subst h3
        obtain ⟨μ', q1, q2⟩ := fin μ1 none (Fa.refl F1.jw) (Or.inl ⟨h1, h2, rfl⟩) rfl
        exact ⟨μ', by rw [rf_none, if_pos jun_null]; exact q1, q2⟩
      · have h3 : X3 = none := h3
        have h1 : X1 = N 1 := h1
        subst h3
        obtain ⟨μ', q1, q2⟩ := fin μ1 none (Fa.refl F1.jw) (Or.inr (Or.inl ⟨h1, rfl⟩)) rfl
        exact ⟨μ', by rw [rf_none, if_pos jun_null]; exact q1, q2⟩
      · have h3 : X3 = some f := h3
        have h1 : X1 = N 2 := h1
        have h2 : X2 = N 0 := h2
        subst h3
        obtain ⟨fs1, ft1, fo1⟩ := FDD.fs h4
        obtain ⟨μ2, f', w1, F2, w3, w4, w5⟩ := x_lowered (d := d + 1) (n := i + 1) F1.jw fs1 hD1 hg1 rfl (by omega)
        have hlw : ∀ t, lw (dG μ1 (xA g)) (i + 1) t = lw G (i + 1) t := fun t => lw_keys hkeys _ t
        have w4 : ftk μ2 f' = (ftk μ f).map (lw G (i + 1)) := by
          rw [w4, ft1]
          exact List.map_congr_left (fun t _ => hlw t)
        obtain ⟨μ', q1, q2⟩ := fin μ2 (some f') F2 (Or.inr (Or.inr ⟨h1, h2, f', rfl, w3, by rw [w4, w5, fo1]; exact FW.low hK h5⟩)) (by
          show (ftk μ2 f').map tcan = ((ftk μ f).map tcan).map (lowT G (i + 1))
          rw [w4, List.map_map, List.map_map]
          exact List.map_congr_left (fun t _ => lowT_can hK.kz))
        refine ⟨μ', ?_, q2⟩
        rw [rf_some, if_neg (by rw [jun_ref]; exact fun g => by cases g)]
        simp only [gI5, gR5, pI5, pR5, rv5, aI_eq, aB_eq, aR_eq, sI_eq, sB_eq, sR_eq, Option.bind_some, Option.bind_none, if_true, if_false, true_or, or_true, false_or, or_false, true_and, and_true, false_and, and_false, decide_eq_true_eq, decide_true, decide_false, eq_self, not_true_eq_false, not_false_eq_true, jfit0, N_lit, N_add, N_mul, NEG_eq, pl_none, pl_some, rf_some, rf_none, jun_ref, jun_null, ir_ref, ir_null, jr_rf, jun_rf, Option.toList_some, Option.toList_none, List.nil_append, List.cons_append, fs1.1, w1]
        have e : N r + N (i + 1) = N (r + (i + 1)) := N_add r (i + 1)
        rw [e] at q1
        exact q1
  obtain ⟨μ', q1, q2, q3, q4⟩ := loop m 0 μ (by omega) (Fa.refl hj) hg hG
  refine ⟨μ', ?_, q2.mono (fun _ _ g => g) (fun _ _ _ g => g) (by omega) (by omega), q3, q4⟩
  rw [jC_run (by decide)]
  show jR (d + 4) 100 0 [.ref g, .int (N r), .int (N c), .int (N n), .retAddr 0, .retAddr 0, .retAddr 0, .retAddr 0, .retAddr 0] [] μ = _
  rw [b100_0]
  have hmin : imin (N n) (N G.length - N 1 - N r) = N m := by
    rw [N_sub (by omega), N_sub (by omega), imin_N (by omega) (by omega), hm]
  simp only [gI6, gR6, pI6, pR6, rv6, aI_eq, aB_eq, aR_eq, sI_eq, sB_eq, sR_eq, Option.bind_some, Option.bind_none, if_true, if_false, true_or, or_true, false_or, or_false, true_and, and_true, false_and, and_false, decide_eq_true_eq, decide_true, decide_false, eq_self, not_true_eq_false, not_false_eq_true, jfit0, N_lit, N_add, N_mul, NEG_eq, pl_none, pl_some, rf_some, rf_none, jun_ref, jun_null, ir_ref, ir_null, jr_rf, jun_rf, Option.toList_some, Option.toList_none, List.nil_append, List.cons_append, k6, hn0, math_min, hmin]
  rw [b100_12]
  simp only [gI6, gR6, pI6, pR6, rv6, aI_eq, aB_eq, aR_eq, sI_eq, sB_eq, sR_eq, Option.bind_some, Option.bind_none, if_true, if_false, true_or, or_true, false_or, or_false, true_and, and_true, false_and, and_false, decide_eq_true_eq, decide_true, decide_false, eq_self, not_true_eq_false, not_false_eq_true, jfit0, N_lit, N_add, N_mul, NEG_eq, pl_none, pl_some, rf_some, rf_none, jun_ref, jun_null, ir_ref, ir_null, jr_rf, jun_rf, Option.toList_some, Option.toList_none, List.nil_append, List.cons_append, k6, c1]
  rw [b100_20]
  simp only [gI6, gR6, pI6, pR6, rv6, aI_eq, aB_eq, aR_eq, sI_eq, sB_eq, sR_eq, Option.bind_some, Option.bind_none, if_true, if_false, true_or, or_true, false_or, or_false, true_and, and_true, false_and, and_false, decide_eq_true_eq, decide_true, decide_false, eq_self, not_true_eq_false, not_false_eq_true, jfit0, N_lit, N_add, N_mul, NEG_eq, pl_none, pl_some, rf_some, rf_none, jun_ref, jun_null, ir_ref, ir_null, jr_rf, jun_rf, Option.toList_some, Option.toList_none, List.nil_append, List.cons_append, k6, c2]
  rw [b100_28]
  simp only [gI6, gR6, pI6, pR6, rv6, aI_eq, aB_eq, aR_eq, sI_eq, sB_eq, sR_eq, Option.bind_some, Option.bind_none, if_true, if_false, true_or, or_true, false_or, or_false, true_and, and_true, false_and, and_false, decide_eq_true_eq, decide_true, decide_false, eq_self, not_true_eq_false, not_false_eq_true, jfit0, N_lit, N_add, N_mul, NEG_eq, pl_none, pl_some, rf_some, rf_none, jun_ref, jun_null, ir_ref, ir_null, jr_rf, jun_rf, Option.toList_some, Option.toList_none, List.nil_append, List.cons_append, k6, c3]
  rw [b100_36 (hs0 := jr_rf)]
  simp only [N_lit]
  exact q1
end FILL
