/-! NEW CELLS: what stays where there are some; Arrays.fill, Arrays.copyOf -/
/-- behind the last cell there is none -/
def JW (μ : jM) : Prop := ∀ a, jsz μ ≤ a → jty μ a = none
/-- what stays, where at most n cells and w slots are new -/
def Fa (S : Nat → Prop) (T : Nat → Nat → Prop) (n w : Nat) (μ μ' : jM) : Prop :=
  jext μ' = jext μ ∧ (jsz μ ≤ jsz μ' ∧ jsz μ' ≤ jsz μ + n) ∧ (jsl μ ≤ jsl μ' ∧ jsl μ' ≤ jsl μ + w) ∧ (∀ a, a < jsz μ → jty μ' a = jty μ a) ∧
  (∀ a, a < jsz μ → ¬ S a → jiv μ' a = jiv μ a) ∧ (∀ a j, a < jsz μ → ¬ T a j → jrv μ' a j = jrv μ a j) ∧ JW μ'
section ALLOC
variable {S S' : Nat → Prop} {T T' : Nat → Nat → Prop} {n w m v : Nat} {μ μ' μ'' : jM} {D g a k : Nat}
theorem JW.lt (h : JW μ) (ha : jk μ a ≠ 99) : a < jsz μ := by
  refine Nat.lt_of_not_le (fun g => ha ?_)
  unfold jk
  rw [h a g]; rfl
theorem Fa.refl (h : JW μ) : Fa S T n w μ μ := ⟨rfl, ⟨Nat.le_refl _, by omega⟩, ⟨Nat.le_refl _, by omega⟩, fun _ _ => rfl, fun _ _ _ => rfl, fun _ _ _ _ => rfl, h⟩
theorem Fa.trans (F : Fa S T n w μ μ') (F' : Fa S' T' m v μ' μ'') (hS : ∀ a, a < jsz μ → S' a → S a) (hT : ∀ a j, a < jsz μ → T' a j → T a j) : Fa S T (n + m) (w + v) μ μ'' := by
  obtain ⟨a1, ⟨a2, a3⟩, ⟨a4, a5⟩, a6, a7, a8, a9⟩ := F
  obtain ⟨b1, ⟨b2, b3⟩, ⟨b4, b5⟩, b6, b7, b8, b9⟩ := F'
  exact ⟨b1.trans a1, ⟨by omega, by omega⟩, ⟨by omega, by omega⟩, fun a ha => (b6 a (by omega)).trans (a6 a ha), fun a ha hs => (b7 a (by omega) (fun g => hs (hS a ha g))).trans (a7 a ha hs), fun a j ha hs => (b8 a j (by omega) (fun g => hs (hT a j ha g))).trans (a8 a j ha hs), b9⟩
theorem Fa.mono (F : Fa S T n w μ μ') (hS : ∀ a, a < jsz μ → S a → S' a) (hT : ∀ a j, a < jsz μ → T a j → T' a j) (hn : n ≤ m) (hw : w ≤ v) : Fa S' T' m v μ μ' := by
  obtain ⟨a1, ⟨a2, a3⟩, ⟨a4, a5⟩, a6, a7, a8, a9⟩ := F
  exact ⟨a1, ⟨a2, by omega⟩, ⟨a4, by omega⟩, a6, fun a ha hs => a7 a ha (fun g => hs (hS a ha g)), fun a j ha hs => a8 a j ha (fun g => hs (hT a j ha g)), a9⟩
theorem Fx.fa (F : Fx S T μ μ') (h : JW μ) : Fa S T 0 0 μ μ' :=
  ⟨F.ext, ⟨by rw [F.sz]; exact Nat.le_refl _, by rw [F.sz]; omega⟩, ⟨by rw [F.sl]; exact Nat.le_refl _, by rw [F.sl]; omega⟩, fun _ _ => by rw [F.ty], fun _ _ hs => F.iv hs, fun _ _ _ hs => F.rv hs, fun a ha => by rw [F.ty]; exact h a (by rw [← F.sz]; exact ha)⟩
theorem Fa.jw (F : Fa S T n w μ μ') : JW μ' := F.2.2.2.2.2.2
theorem Fa.kk (F : Fa S T n w μ μ') (ha : a < jsz μ) : jk μ' a = jk μ a := by unfold jk; rw [F.2.2.2.1 a ha]
theorem Fa.ll (F : Fa S T n w μ μ') (ha : a < jsz μ) : jl μ' a = jl μ a := by unfold jl; rw [F.2.2.2.1 a ha]
theorem Fa.iv (F : Fa S T n w μ μ') (ha : a < jsz μ) (hs : ¬ S a) : jiv μ' a = jiv μ a := F.2.2.2.2.1 a ha hs
theorem Fa.rv (F : Fa S T n w μ μ') (ha : a < jsz μ) (hs : ¬ T a k) : jrv μ' a k = jrv μ a k := F.2.2.2.2.2.1 a k ha hs
theorem Fa.new {n0 w0 : Nat} (h : JW μ) : Fa S T 1 w0 μ (jnew μ k n0 w0) := by
  refine ⟨rfl, ⟨Nat.le_succ _, Nat.le_refl _⟩, ⟨Nat.le_add_right _ _, Nat.le_refl _⟩, fun a ha => ?_, fun a ha _ => ?_, fun a j ha _ => ?_, fun a ha => ?_⟩
  · exact if_neg (Nat.ne_of_lt ha)
  · funext j; exact if_neg (Nat.ne_of_lt ha)
  · exact if_neg (Nat.ne_of_lt ha)
  · have ha : jsz μ + 1 ≤ a := ha
    exact (if_neg (show ¬ a = jsz μ by omega)).trans (h a (by omega))
theorem Fa.fd (F : Fa S T n w μ μ') (h : JW μ) (hS : ∀ a, a < jsz μ → S a → a < D) (hT : ∀ a j, a < jsz μ → T a j → a < D) : FD D μ μ' := fun a ha =>
  have hl := h.lt ha
  ⟨F.kk hl, F.ll hl, fun hd => ⟨F.iv hl (fun g => by have := hS a hl g; omega), by funext j; exact F.rv hl (fun g => by have := hT a j hl g; omega)⟩⟩
theorem ne99 (h : jk μ a = k) (hk : k ≠ 99) : jk μ a ≠ 99 := by rw [h]; exact hk
theorem Gs.lt (hg : Gs μ g) (h : JW μ) : ∀ i, i < 6 → g + i < jsz μ := by
  obtain ⟨⟨h0, h1, -, h2, -, h3, -, h4, -, h5, -⟩, -, -⟩ := hg
  intro i hi
  obtain rfl | rfl | rfl | rfl | rfl | rfl : i = 0 ∨ i = 1 ∨ i = 2 ∨ i = 3 ∨ i = 4 ∨ i = 5 := by omega
  · exact h.lt (ne99 h0 (by decide))
  · exact h.lt (ne99 h1 (by decide))
  · exact h.lt (ne99 h2 (by decide))
  · exact h.lt (ne99 h3 (by decide))
  · exact h.lt (ne99 h4 (by decide))
  · exact h.lt (ne99 h5 (by decide))
/-- a grid that is outside of a change with new cells -/
theorem GV.outa {h : Nat} (hg : GV μ D h) (hj : JW μ) (F : Fa S T n w μ μ') (hS : ∀ a, a < jsz μ → S a → a < D ∧ (a < h ∨ h + 6 ≤ a)) (hT : ∀ a j, a < jsz μ → T a j → a < D ∧ (a < h ∨ h + 6 ≤ a)) : GV μ' D h ∧ dG μ' (xA h) = dG μ (xA h) := by
  obtain ⟨h0, hs, h3, h4⟩ := hg
  have hl := hs.lt hj
  obtain ⟨k1, k2, k3⟩ := hs
  have hi : ∀ j, j < 6 → jiv μ' (h + j) = jiv μ (h + j) := fun j hj => F.iv (hl j hj) (fun k => by have := hS _ (hl j hj) k; omega)
  have hr : ∀ j, j < 6 → ∀ i, jrv μ' (h + j) i = jrv μ (h + j) i := fun j hj i => F.rv (hl j hj) (fun k => by have := hT _ _ (hl j hj) k; omega)
  obtain ⟨e1, e2⟩ : rG μ' (xA h) = rG μ (xA h) ∧ vN μ' (xA h) = vN μ (xA h) := rG_same (congrFun (hi 0 (by omega)) 0) (hi 1 (by omega)) (hi 2 (by omega)) (hi 3 (by omega)) (funext (hr 4 (by omega))) (hi 5 (by omega))
  obtain ⟨e3, e4⟩ := (F.fd (D := D) hj (fun a l k => (hS a l k).1) (fun a j l k => (hT a j l k).1)).rows h4
  have kx : ∀ j, j < 6 → jk μ' (h + j) = jk μ (h + j) ∧ jl μ' (h + j) = jl μ (h + j) := fun j hj => ⟨F.kk (hl j hj), F.ll (hl j hj)⟩
  refine ⟨⟨h0, ⟨?_, ?_, fun j b hb => ?_⟩, ?_, by rw [e1]; exact e3⟩, by unfold dG; rw [e1]; exact e4⟩
  · have k0 := kx 0 (by decide)
    simp only [Nat.add_zero] at k0
    rw [k0.1, (kx 1 (by decide)).1, (kx 2 (by decide)).1, (kx 3 (by decide)).1, (kx 4 (by decide)).1, (kx 5 (by decide)).1, (kx 1 (by decide)).2, (kx 2 (by decide)).2, (kx 3 (by decide)).2, (kx 4 (by decide)).2, (kx 5 (by decide)).2]
    exact k1
  · have := hr 0 (by omega)
    simp only [Nat.add_zero] at this
    simp only [this]
    exact k2
  · rw [hr 4 (by omega)] at hb
    have h5 := k3 j b hb
    rw [F.kk (hj.lt (ne99 h5 (by decide)))]; exact h5
  · unfold Gn
    rw [e2]
    have := hi 0 (by omega)
    simp only [Nat.add_zero] at this
    rw [this]; exact h3
/-- Arrays.fill -/
theorem x_fill {d : Nat} {x : Int32} (hk : jk μ a = 20) (hl : jl μ a < 100000) : ∃ μ', jC d 305 [.ref a, .int x] μ = some (none, μ') ∧ Fx (fun b => b = a) (fun _ _ => False) μ μ' ∧ ∀ j, jiv μ' a j = if j < jl μ a then x else jiv μ a j := by
  rw [jC_run (by decide)]
  have loop : ∀ k i μ1, i + k = jl μ a → Fx (fun b => b = a) (fun _ _ => False) μ μ1 → (∀ j, jiv μ1 a j = if j < i then x else jiv μ a j) → ∃ μ', jR d 305 5 [.ref a, .int x, .int (N i), .int (N (jl μ a))] [] μ1 = some (none, μ') ∧ Fx (fun b => b = a) (fun _ _ => False) μ μ' ∧ ∀ j, jiv μ' a j = if j < jl μ a then x else jiv μ a j := by
    intro k
    induction k with
    | zero =>
      intro i μ1 hi F hv
      refine ⟨μ1, ?_, F, fun j => ?_⟩
      · rw [b305_5 (h0 := ir_ref), if_neg]
        rw [N_lt (by omega) (by omega)]; omega
      · rw [hv j, show i = jl μ a by omega]
    | succ k ih =>
      intro i μ1 hi F hv
      have bi : i < 2147483648 := by omega
      have k1 : jk μ1 a = 20 := by rw [F.kk]; exact hk
      have l1 : i < jl μ1 a := by rw [F.ll]; omega
      obtain ⟨μ', r1, r2, r3⟩ := ih (i + 1) (jsetI μ1 a i x) (by omega) (by refine Fx.setI F ?_; show a = a; rfl) (fun j => by
        simp only [ty_setI, ty_setR, ty_rowI, ty_rowR, jk_setI, jk_setR, jk_rowI, jk_rowR, jl_setI, jl_setR, jl_rowI, jl_rowR, sz_setI, sz_setR, sz_rowI, sz_rowR, ext_setI, ext_setR, iv_setI, iv_setR, iv_rowI, iv_rowR, rv_setI, rv_setR, rv_rowI, rv_rowR, iv_setIn, iv_rowIn, rv_setRn, rv_rowRn, iv_rowIe, rv_rowRe, true_and]
        by_cases e : j = i
        · rw [if_pos e, if_pos (by omega)]
        · rw [if_neg e, hv j]
          by_cases e2 : j < i
          · rw [if_pos e2, if_pos (by omega)]
          · rw [if_neg e2, if_neg (by omega)])
      refine ⟨μ', ?_, r2, r3⟩
      rw [b305_5 (h0 := ir_ref), if_pos (by rw [N_lt bi (by omega)]; omega)]
      simp only [aI_eq, aB_eq, aR_eq, sI_eq, sB_eq, sR_eq, Option.bind_some, Option.bind_none, if_true, if_false, true_or, or_true, false_or, or_false, true_and, and_true, false_and, and_false, decide_eq_true_eq, decide_true, decide_false, eq_self, not_true_eq_false, not_false_eq_true, jfit0, N_lit, N_add, N_mul, NEG_eq, pl_none, pl_some, rf_some, rf_none, jun_ref, jun_null, ir_ref, ir_null, jr_rf, jun_rf, Option.toList_some, Option.toList_none, List.nil_append, List.cons_append, k1, jinb_N bi, l1, N_nat bi]
      exact r1
  obtain ⟨μ', r1, r2, r3⟩ := loop (jl μ a) 0 μ (by omega) Fx.refl (fun j => (if_neg (Nat.not_lt_zero j)).symm)
  refine ⟨μ', ?_, r2, r3⟩
  rw [← r1]
  show jR d 305 0 [.ref a, .int x, .retAddr 0, .retAddr 0] [] μ = _
  simp only [b305_0, aI_eq, aB_eq, aR_eq, sI_eq, sB_eq, sR_eq, Option.bind_some, Option.bind_none, if_true, if_false, true_or, or_true, false_or, or_false, true_and, and_true, false_and, and_false, decide_eq_true_eq, decide_true, decide_false, eq_self, not_true_eq_false, not_false_eq_true, jfit0, N_lit, N_add, N_mul, NEG_eq, pl_none, pl_some, rf_some, rf_none, jun_ref, jun_null, ir_ref, ir_null, jr_rf, jun_rf, Option.toList_some, Option.toList_none, List.nil_append, List.cons_append, alen_of hk (by decide)]
theorem nk_e {n0 : Nat} : jk (jnew μ k n0 w) (jsz μ) = k := by
  unfold jk
  rw [show jty (jnew μ k n0 w) (jsz μ) = some (k, n0) from if_pos rfl]; rfl
theorem nl_e {n0 : Nat} : jl (jnew μ k n0 w) (jsz μ) = n0 := by
  unfold jl
  rw [show jty (jnew μ k n0 w) (jsz μ) = some (k, n0) from if_pos rfl]; rfl
theorem nk_n {n0 : Nat} (h : a < jsz μ) : jk (jnew μ k n0 w) a = jk μ a := by
  unfold jk
  rw [show jty (jnew μ k n0 w) a = jty μ a from if_neg (Nat.ne_of_lt h)]
theorem nl_n {n0 : Nat} (h : a < jsz μ) : jl (jnew μ k n0 w) a = jl μ a := by
  unfold jl
  rw [show jty (jnew μ k n0 w) a = jty μ a from if_neg (Nat.ne_of_lt h)]
theorem nv_e {n0 : Nat} : jiv (jnew μ k n0 w) (jsz μ) = fun _ => N 0 := by funext j; exact if_pos rfl
theorem nv_n {n0 : Nat} (h : a < jsz μ) : jiv (jnew μ k n0 w) a = jiv μ a := by funext j; exact if_neg (Nat.ne_of_lt h)
theorem nr_e {n0 : Nat} : jrv (jnew μ k n0 w) (jsz μ) = fun _ => none := by funext j; exact if_pos rfl
theorem nr_n {n0 : Nat} (h : a < jsz μ) : jrv (jnew μ k n0 w) a = jrv μ a := by funext j; exact if_neg (Nat.ne_of_lt h)
theorem nsz {n0 : Nat} : jsz (jnew μ k n0 w) = jsz μ + 1 := rfl
theorem nsl {n0 : Nat} : jsl (jnew μ k n0 w) = jsl μ + w := rfl
theorem jnA_N {n0 : Nat} (h : n0 ≤ 65536) : jnA μ k (N n0) = some (.ref (jsz μ), jnew μ k n0 n0) := by
  unfold jnA
  have h1 : (0 : Int32) ≤ N n0 := by rw [show (0 : Int32) = N 0 from rfl, N_le (by decide) (by omega)]; omega
  have h2 : N n0 ≤ (65536 : Int32) := by rw [show (65536 : Int32) = N 65536 from rfl, N_le (by omega) (by decide)]; exact h
  rw [if_pos ⟨h1, h2⟩, N_nat (by omega)]
theorem cp_N {b sp dp n0 : Nat} (hk : jk μ a = 20) (hk' : jk μ b = 20) (h1 : sp + n0 ≤ jl μ a) (h2 : dp + n0 ≤ jl μ b) (b1 : jl μ a < 1000000) (b2 : jl μ b < 1000000) : jcp μ (.ref a) (N sp) (.ref b) (N dp) (N n0) = some (jrowI μ b (va_cpy (jiv μ a) (jiv μ b) sp dp n0)) := by
  have le : ∀ x : Nat, x < 2147483648 → (0 : Int32) ≤ N x := fun x hx => by rw [show (0 : Int32) = N 0 from rfl, N_le (by decide) hx]; omega
  rw [cp_eq, N_nat (by omega), N_nat (by omega), N_nat (by omega), if_pos]
  exact ⟨Or.inl ⟨by rw [hk, hk'], Or.inl hk⟩, le _ (by omega), le _ (by omega), le _ (by omega), h1, h2⟩
/-- Arrays.copyOf -/
theorem x_copyOf {d n0 : Nat} (hj : JW μ) (hk : jk μ a = 20) (hl : jl μ a < 65536) (hn : n0 ≤ 65536) : ∃ μ', jC (d + 1) 304 [.ref a, .int (N n0)] μ = some (some (.ref (jsz μ)), μ') ∧ Fa (fun _ => False) (fun _ _ => False) 1 n0 μ μ' ∧ jsz μ' = jsz μ + 1 ∧ jk μ' (jsz μ) = 20 ∧ jl μ' (jsz μ) = n0 ∧ ∀ j, j < n0 → j < jl μ a → jiv μ' (jsz μ) j = jiv μ a j := by
  have ha := hj.lt (ne99 hk (by decide))
  have hb : ¬ jsz μ = a := by omega
  rw [jC_run (by decide)]
  show ∃ μ', jR (d + 1) 304 0 [.ref a, .int (N n0), .retAddr 0] [] μ = _ ∧ _
  rw [b304_0 (h0 := ir_ref)]
  simp only [alen_of hk (by decide), Option.bind_some, N_inj (show n0 < 2147483648 by omega) (show jl μ a < 2147483648 by omega)]
  have F0 : Fa (fun _ => False) (fun _ _ => False) 1 n0 μ (jnew μ 20 n0 n0) := Fa.new hj
  by_cases e : n0 = jl μ a
  · have c1 : jclk μ 20 (.ref a) = true := by
      unfold jclk
      show ((jty μ a).map fun q => (a, q.1, q.2)).any _ = true
      rw [jt_of hk (by decide)]; rfl
    subst e
    have c2 : jck (jrowI (jnew μ 20 (jl μ a) (jl μ a)) (jsz μ) (jiv μ a)) 20 (.ref (jsz μ)) = true := by
      unfold jck
      show ((jty (jrowI (jnew μ 20 (jl μ a) (jl μ a)) (jsz μ) (jiv μ a)) (jsz μ)).map fun q => (jsz μ, q.1, q.2)).any _ = true
      rw [ty_rowI, jt_of (nk_e (k := 20)) (by decide)]; rfl
    refine ⟨jrowI (jnew μ 20 (jl μ a) (jl μ a)) (jsz μ) (jiv μ a), ?_, ?_, rfl, ?_, ?_, fun j _ _ => ?_⟩
    · simp only [if_true, c1, cl_eq, hk, true_or, Option.bind_some, c2]
    · have F1 : Fx (fun b => b = jsz μ) (fun _ _ => False) (jnew μ 20 (jl μ a) (jl μ a)) (jrowI (jnew μ 20 (jl μ a) (jl μ a)) (jsz μ) (jiv μ a)) := by refine Fx.rowI Fx.refl ?_; show jsz μ = jsz μ; rfl
      have F2 := F0.trans (F1.fa F0.jw) (fun b hb g => by have g : b = jsz μ := g; omega) (fun _ _ _ g => g)
      exact F2.mono (fun _ _ g => g) (fun _ _ _ g => g) (by omega) (by omega)
    · rw [jk_rowI]; exact nk_e
    · rw [jl_rowI]; exact nl_e
    · rw [iv_rowIe]
  · have k1 : jk (jnew μ 20 n0 n0) a = 20 := by rw [nk_n ha]; exact hk
    have k2 : jk (jnew μ 20 n0 n0) (jsz μ) = 20 := nk_e
    have l1 : jl (jnew μ 20 n0 n0) a = jl μ a := nl_n ha
    have l2 : jl (jnew μ 20 n0 n0) (jsz μ) = n0 := nl_e
    have em : imin (N (jl μ a)) (N n0) = N (min (jl μ a) n0) := by
      unfold imin
      simp only [N_lt (show n0 < 2147483648 by omega) (show jl μ a < 2147483648 by omega)]
      split
      · rw [Nat.min_eq_right (by omega)]
      · rw [Nat.min_eq_left (by omega)]
    refine ⟨jrowI (jnew μ 20 n0 n0) (jsz μ) (va_cpy (jiv (jnew μ 20 n0 n0) a) (jiv (jnew μ 20 n0 n0) (jsz μ)) 0 0 (min (jl μ a) n0)), ?_, ?_, rfl, ?_, ?_, fun j h1 h2 => ?_⟩
    · rw [if_neg e]
      simp only [jnA_N hn, alen_of k1 (by decide), l1, Option.bind_some, math_min, em, Option.toList_some, List.cons_append, List.nil_append]
      rw [b304_28 (h2 := ir_ref) (hs0 := ir_ref) (hs2 := ir_ref)]
      rw [show (0 : Int32) = N 0 from rfl, cp_N k1 k2 (by omega) (by omega) (by omega) (by omega)]
      rfl
    · have F1 : Fx (fun b => b = jsz μ) (fun _ _ => False) (jnew μ 20 n0 n0) (jrowI (jnew μ 20 n0 n0) (jsz μ) (va_cpy (jiv (jnew μ 20 n0 n0) a) (jiv (jnew μ 20 n0 n0) (jsz μ)) 0 0 (min (jl μ a) n0))) := by refine Fx.rowI Fx.refl ?_; show jsz μ = jsz μ; rfl
      have F2 := F0.trans (F1.fa F0.jw) (fun b hb g => by have g : b = jsz μ := g; omega) (fun _ _ _ g => g)
      exact F2.mono (fun _ _ g => g) (fun _ _ _ g => g) (by omega) (by omega)
    · rw [jk_rowI]; exact k2
    · rw [jl_rowI]; exact l2
    · rw [iv_rowIe]
      unfold va_cpy
      rw [if_pos (by omega), nv_n ha]
      congr 1
      omega
end ALLOC
